theorem LAW_holds : LAW := sorry

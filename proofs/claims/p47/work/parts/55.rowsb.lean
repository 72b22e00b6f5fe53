/-! ===== at, tear, mean ===== -/
/-- the sum of the first items -/
def sm64 (g : Nat → Int32) (n : Nat) : Int64 := (List.range n).foldl (fun s i => s + (g i).toInt64) 0
theorem sm64_s (g : Nat → Int32) (n : Nat) : sm64 g (n + 1) = sm64 g n + (g n).toInt64 := by
  unfold sm64
  rw [List.range_succ, List.foldl_append]
  rfl
/** Runs every test of the project. */
final class RunAll {
    private RunAll() {
    }

    public static void main(String[] args) {
        Checks c = new Checks();
        RowsTextsHallsTest.run(c);
        StepsTest.run(c);
        HowLateTest.run(c);
        OrdersTest.run(c);
        HadTest.run(c);
        WhoWalkedTest.run(c);
        AgainTest.run(c);
        ChancesTest.run(c);
        ToldTest.run(c);
        WhatItIsTest.run(c);
        FaceTest.run(c);
        TermsSentencesTest.run(c);
        RowSentencesTest.run(c);
        StepSentencesTest.run(c);
        AskSentencesTest.run(c);
        ToldSentencesTest.run(c);
        PlainClockTest.run(c);
        AnyCallTest.run(c);
        LanguageTest.run(c);
        ReadmeTest.run(c);
        if (!c.allRight()) {
            System.exit(1);
        }
    }
}

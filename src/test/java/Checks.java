/** Counts what answers as it is due, and prints each call that does not, by its line. */
final class Checks {
    private final Document document = new Document();
    private final boolean[] seen = new boolean[document.parts()];
    private String where = "";
    private String sentence = "";
    private int atSentence = 0;
    private int sentences = 0;
    private int passed = 0;
    private int failed = 0;

    /** What follows tests this promise. */
    void promise(int number) {
        endSentence();
        where = Document.nameOf(number);
        seen[number] = true;
    }

    /** What follows tests no one promise but this. */
    void beside(String what) {
        endSentence();
        where = what;
    }

    /** What follows tests these words of the document: of a promise, by its number, or of another part. */
    void sentence(int part, String words) {
        promise(part);
        sentence = words;
        atSentence = passed + failed;
        sentences++;
        if (!document.name(part, words)) {
            wrong(where + " does not say (once more): " + words);
        }
    }

    private void endSentence() {
        if (!sentence.isEmpty() && passed + failed == atSentence) {
            wrong(where + ", nothing is looked at for: " + sentence);
        }
        sentence = "";
    }

    void is(long got, long due) {
        if (got == due) {
            passed++;
            return;
        }
        tellWrong("answered " + got + ", due is " + due);
    }

    void same(String got, String due) {
        if (got.equals(due)) {
            passed++;
            return;
        }
        tellWrong("it is " + got + ", due is " + due);
    }

    /** An answer of 1 whose number asked() tells. */
    void tells(ClockFeet x, long got, long dueAsked) {
        told(x, got, 1, dueAsked);
    }

    /** An answer, and the number that asked() tells then. */
    void told(ClockFeet x, long got, long due, long dueAsked) {
        if (got == due && x.asked() == dueAsked) {
            passed++;
            return;
        }
        tellWrong("answered " + got + " and told " + x.asked() + ", due are " + due + " and " + dueAsked);
    }

    /** An answer of 1 whose numbers upper(), lower() tell. */
    void ratio(ClockFeet x, long got, long dueUpper, long dueLower) {
        if (got == 1 && x.upper() == dueUpper && x.lower() == dueLower) {
            passed++;
            return;
        }
        tellWrong("answered " + got + " and told " + x.upper() + "/" + x.lower() + ", due are 1 and "
            + dueUpper + "/" + dueLower);
    }

    /** A FINDING: the answer, and which one it was. */
    void finds(ClockFeet x, int answer, int finding) {
        if (answer == ClockFeet.FINDING && x.finding() == finding) {
            passed++;
            return;
        }
        tellWrong("answered " + answer + " with finding " + x.finding() + ", due are -3 and " + finding);
    }

    private void tellWrong(String what) {
        StackWalker.StackFrame frame = StackWalker.getInstance().walk(frames -> frames
            .filter(one -> !one.getClassName().equals("Checks") && !one.getClassName().startsWith("Twins"))
            .findFirst().orElseThrow());
        String words = sentence.isEmpty() ? "" : " (" + sentence + ")";
        wrong(where + words + ", " + frame.getFileName() + ":" + frame.getLineNumber() + ": " + what);
    }

    void wrong(String what) {
        failed++;
        System.out.println(what);
    }

    void right() {
        passed++;
    }

    boolean allRight() {
        endSentence();
        for (int part = 0; part < document.parts(); part++) {
            if (!seen[part]) {
                wrong(Document.nameOf(part) + " has no test");
            }
            if (!document.unnamed(part).isEmpty()) {
                wrong(Document.nameOf(part) + ", no test names: " + document.unnamed(part));
            }
        }
        System.out.println("checks: " + passed + " as due, " + failed + " not; " + sentences + " sentences of the document");
        return failed == 0;
    }
}

/** Halls and texts that the tests begin with. */
final class Halls {
    private Halls() {
    }

    /** Puts signs into a TEXT as it is due. */
    static void write(ClockFeet x, int t, String signs) {
        x.text(t, signs.length());
        for (int i = 0; i < signs.length(); i++) {
            x.put(t, i, signs.charAt(i));
        }
    }

    static ClockFeet of(String signs) {
        ClockFeet x = new ClockFeet();
        write(x, 0, signs);
        if (x.hall(0) < 1) {
            throw new IllegalStateException("no HALL: " + signs);
        }
        return x;
    }

    static int faultOf(String signs) {
        ClockFeet x = new ClockFeet();
        write(x, 3, signs);
        return x.fault(3);
    }

    /** Makes a ROW of these numbers. */
    static void fill(ClockFeet x, int r, int... numbers) {
        x.row(r, numbers.length);
        for (int i = 0; i < numbers.length; i++) {
            x.lay(r, i, numbers[i]);
        }
    }

    static void walk(ClockFeet x, int... guilds) {
        for (int g : guilds) {
            x.walk(g);
        }
    }

    static int cell(ClockFeet x, int r, int i) {
        return x.at(r, i) == 1 ? x.asked() : Integer.MIN_VALUE;
    }

    static int detail(ClockFeet x, int g, int what) {
        return x.guild(g, what) == 1 ? x.asked() : Integer.MIN_VALUE;
    }

    /** The places of a ROW. */
    static String cells(ClockFeet x, int r) {
        StringBuilder all = new StringBuilder();
        for (int i = 0; i < 40 && x.at(r, i) == 1; i++) {
            all.append(i == 0 ? "" : " ").append(x.asked());
        }
        return all.toString();
    }

    /** An object without a HALL, that holds and has told something. */
    static ClockFeet empty() {
        ClockFeet x = new ClockFeet();
        fill(x, 0, 1, 2, 0);
        x.row(1, 0);
        x.row(3, 40);
        write(x, 0, "d12");
        write(x, 1, "d13 g4");
        x.text(2, 0);
        x.at(5, 0);
        x.at(0, 9);
        fill(x, 2, 77, -5);
        x.at(2, 0);
        return x;
    }

    /** Six GUILDS, one of each KIND, in the midst of their walks, two HALLS kept, things told. */
    static ClockFeet busy() {
        ClockFeet x = empty();
        write(x, 3, "d12 g5 h2 c4 k1 r3 t9 e05 e10");
        x.hall(3);
        x.shoe(0, 4);
        walk(x, 0, 5);
        x.keep(0);
        x.undo(0);
        x.shoe(0, 5);
        walk(x, 0);
        x.floor(1);
        walk(x, 1, 4, 3);
        x.keep(2);
        walk(x, 0);
        x.mark(0, 1);
        x.pace();
        x.at(2, 0);
        return x;
    }

    /** A HALL in the midst of its walks; of the TEXTS the latest is missing, and one is empty. */
    static ClockFeet fourthMissing() {
        ClockFeet x = empty();
        x.hall(1);
        walk(x, 0, 0);
        x.keep(1);
        return x;
    }

    /** As busy() at first: FEET can still be changed. */
    static ClockFeet early() {
        ClockFeet x = busy();
        x.undo(0);
        return x;
    }

    /** 60 STEPS, the latest of them a walk, on a bare FLOOR. */
    static ClockFeet full() {
        ClockFeet x = busy();
        x.floor(0);
        for (int i = x.count(4); i < 60; i++) {
            x.walk(i % 6);
        }
        x.keep(1);
        x.at(2, 0);
        return x;
    }
}

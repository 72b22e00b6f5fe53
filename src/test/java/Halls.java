/** Halls and texts that the tests begin with. */
final class Halls {
    private Halls() {
    }

    /** Puts signs into a TEXT as it is due. */
    static void write(ClockFeet x, int t, String signs) {
        x.text(t, signs.length());
        for (int i = 0; i < signs.length(); i++) {
            x.put(t, i, signs.charAt(i));
        }
    }

    static ClockFeet of(String signs) {
        ClockFeet x = new ClockFeet();
        write(x, 0, signs);
        if (x.hall(0) < 1) {
            throw new IllegalStateException("no HALL: " + signs);
        }
        return x;
    }

    static int faultOf(String signs) {
        ClockFeet x = new ClockFeet();
        write(x, 3, signs);
        return x.fault(3);
    }

    /** Makes a ROW of these numbers. */
    static void fill(ClockFeet x, int r, int... numbers) {
        x.row(r, numbers.length);
        for (int i = 0; i < numbers.length; i++) {
            x.lay(r, i, numbers[i]);
        }
    }

    static void walk(ClockFeet x, int... guilds) {
        for (int g : guilds) {
            x.walk(g);
        }
    }

    static int cell(ClockFeet x, int r, int i) {
        return x.at(r, i) == 1 ? x.asked() : Integer.MIN_VALUE;
    }

    static int detail(ClockFeet x, int g, int what) {
        return x.guild(g, what) == 1 ? x.asked() : Integer.MIN_VALUE;
    }
}

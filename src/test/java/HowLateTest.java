/** Promises 20 to 23: how late it is. */
final class HowLateTest {
    private static final int NOTHING = 1, UNLIKE = 3, NOUGHT = 4;

    private HowLateTest() {
    }

    static void run(Checks c) {
        hour(c);
        due(c);
        after(c);
        pace(c);
    }

    private static void hour(Checks c) {
        c.promise(20);
        c.is(new ClockFeet().hour(), ClockFeet.STATE);
        ClockFeet x = Halls.of("d25 g1 h9");
        c.is(x.hour(), 0);
        c.is(x.asked(), 0);
        Halls.walk(x, 0, 0);
        c.is(x.hour(), 0);
        x.walk(0);
        c.is(x.hour(), 1);
        Halls.walk(x, 0, 0, 0);
        c.is(x.hour(), 2);
        x.walk(1);
        c.is(x.hour(), 11);
        c.is(x.asked(), 0);
        Halls.walk(x, 1, 1);
        c.is(x.count(2), 10);
        c.is(x.hour(), 4);
        c.is(x.asked(), 2);
        x.row(0, 1);
        x.lay(0, 0, 99);
        x.at(0, 0);
        c.is(new ClockFeet().hour(), ClockFeet.STATE);
        c.is(x.asked(), 99);
        c.is(x.hour(), 4);
        c.is(x.asked(), 2);
        ClockFeet small = Halls.of("d12 h9");
        Halls.walk(small, 0, 0);
        c.is(small.hour(), 0);
        c.is(small.asked(), 3);
    }

    private static void due(Checks c) {
        c.promise(21);
        ClockFeet none = new ClockFeet();
        c.is(none.due(), 0);
        c.is(none.asked(), 0);
        ClockFeet x = Halls.of("d12 g3 k1 g2 e03 e08");
        c.is(x.due(), 0);
        x.walk(0);
        c.is(x.due(), 1);
        c.is(x.asked(), 1);
        x.walk(1);
        c.is(x.due(), 2);
        x.walk(2);
        c.is(x.due(), 2);
        c.is(x.asked(), 0);
        x.walk(0);
        c.is(x.due(), 3);
        c.is(x.asked(), 1);
        x.floor(2);
        c.is(x.due(), 3);
        x.walk(0);
        c.is(x.due(), 4);
        c.is(x.asked(), 1);
        x.undo(3);
        c.is(x.due(), 2);
        c.is(x.asked(), 0);
    }

    private static void after(Checks c) {
        c.promise(22);
        ClockFeet x = Halls.of("d12 g3 k1 h9 e03 e09");
        Halls.walk(x, 0);
        Halls.fill(x, 0, 1, 1, 2, 0);
        c.is(x.after(0), 0);
        c.is(x.asked(), 3);
        c.is(x.count(2), 3);
        c.is(x.count(4), 1);
        c.is(x.due(), 1);
        c.is(Halls.detail(x, 1, 4), 0);
        x.row(1, 0);
        c.is(x.after(1), 3);
        c.is(x.asked(), 0);
        x.floor(1);
        c.is(x.after(0), 1);
        c.is(x.asked(), 2);
        Halls.fill(x, 2, new int[40]);
        c.is(x.after(2), 7);
        for (int i = x.count(4); i < 60; i++) {
            x.walk(1);
        }
        c.is(x.after(2), 7);
        c.is(x.asked(), 6);
        Halls.fill(x, 3, 0, 3);
        c.finds(x, x.after(3), UNLIKE);
        Halls.fill(x, 3, -1, 0);
        c.finds(x, x.after(3), UNLIKE);
        c.finds(x, x.after(4), NOTHING);
        c.is(x.after(6), ClockFeet.BAD);
        c.is(x.after(-1), ClockFeet.BAD);
        ClockFeet none = new ClockFeet();
        c.is(none.after(0), ClockFeet.STATE);
        none.row(0, 1);
        c.is(none.after(0), ClockFeet.STATE);
        c.is(none.after(6), ClockFeet.BAD);
        c.is(none.finding(), 0);
    }

    private static void pace(Checks c) {
        c.promise(23);
        ClockFeet none = new ClockFeet();
        c.finds(none, none.pace(), NOUGHT);
        ClockFeet x = Halls.of("d12 h9 g4 k1");
        x.floor(1);
        c.finds(x, x.pace(), NOUGHT);
        x.floor(0);
        Halls.walk(x, 0);
        c.is(x.pace(), 1);
        c.is(x.upper(), 18);
        c.is(x.lower(), 1);
        Halls.walk(x, 1, 2, 1);
        c.is(x.pace(), 1);
        c.is(x.upper(), 13);
        c.is(x.lower(), 2);
        x.floor(1);
        Halls.walk(x, 0);
        c.is(x.pace(), 1);
        c.is(x.upper(), 7);
        c.is(x.lower(), 1);
        x.undo(0);
        c.finds(x, x.pace(), NOUGHT);
        c.is(x.upper(), 7);
        Halls.walk(x, 2, 2);
        c.is(x.pace(), 1);
        c.is(x.upper(), 0);
        c.is(x.lower(), 1);
    }
}

/** Promises 15 to 19: steps. */
final class StepsTest {
    private static final int NOTHING = 1;

    private StepsTest() {
    }

    static void run(Checks c) {
        walk(c);
        floor(c);
        undo(c);
        keepAndOn(c);
        keptByItself(c);
    }

    private static void walk(Checks c) {
        c.promise(15);
        ClockFeet x = Halls.of("d12 h9 g5 k3 e05");
        c.is(x.walk(1), 5);
        c.is(x.walk(2), 5);
        c.is(x.due(), 2);
        c.is(x.walk(0), 11);
        c.is(x.count(3), 1);
        c.is(x.walk(0), 5);
        c.is(x.count(3), 3);
        c.is(x.count(4), 4);
        c.is(x.walk(3), ClockFeet.BAD);
        c.is(x.walk(-1), ClockFeet.BAD);
        x.floor(2);
        c.is(x.walk(0), 5);
        for (int i = x.count(4); i < 60; i++) {
            x.walk(1);
        }
        c.is(x.count(4), 60);
        int tooth = x.count(2);
        c.is(x.walk(1), ClockFeet.FULL);
        c.is(x.walk(3), ClockFeet.BAD);
        c.is(x.count(4), 60);
        c.is(x.count(2), tooth);
        c.is(x.undo(59), 1);
        c.is(x.walk(1), 5);
        c.is(new ClockFeet().walk(0), ClockFeet.BAD);
        ClockFeet six = Halls.of("d60 g1 g2 g3 g4 g5 g6");
        c.is(six.walk(5), 6);
        c.is(six.walk(4), 11);
        c.is(Halls.detail(six, 5, 4), 1);
    }

    private static void floor(Checks c) {
        c.promise(16);
        ClockFeet x = Halls.of("d20 g7");
        c.is(x.floor(0), ClockFeet.STATE);
        c.is(x.floor(1), 0);
        c.is(x.walk(0), 3);
        c.is(x.floor(1), ClockFeet.STATE);
        c.is(x.floor(2), 1);
        c.is(x.walk(0), 3);
        c.is(x.floor(0), 2);
        c.is(x.walk(0), 10);
        c.is(x.count(5), 0);
        c.is(x.count(4), 6);
        c.is(x.floor(3), ClockFeet.BAD);
        c.is(x.floor(-1), ClockFeet.BAD);
        for (int i = 6; i < 60; i++) {
            x.walk(0);
        }
        c.is(x.floor(1), ClockFeet.FULL);
        c.is(x.floor(0), ClockFeet.STATE);
        c.is(x.floor(3), ClockFeet.BAD);
        c.is(x.count(5), 0);
        ClockFeet none = new ClockFeet();
        c.is(none.floor(1), ClockFeet.STATE);
        c.is(none.floor(0), ClockFeet.STATE);
        c.is(none.floor(3), ClockFeet.BAD);
    }

    private static void undo(Checks c) {
        c.promise(17);
        ClockFeet x = Halls.of("d12 g5 h4 e10");
        Halls.walk(x, 0, 0, 1);
        x.floor(2);
        Halls.walk(x, 0);
        c.is(x.undo(5), 0);
        c.is(x.undo(6), ClockFeet.BAD);
        c.is(x.undo(-1), ClockFeet.BAD);
        c.is(x.count(4), 5);
        c.is(x.undo(3), 2);
        c.is(x.count(2), 6);
        c.is(x.count(3), 1);
        c.is(x.count(5), 0);
        c.is(x.count(4), 3);
        c.is(x.due(), 1);
        c.is(x.undo(1), 2);
        c.is(x.count(2), 5);
        c.is(x.count(3), 0);
        c.is(x.due(), 0);
        c.is(Halls.detail(x, 0, 4), 1);
        c.is(Halls.detail(x, 1, 4), 0);
        c.is(x.pace(), 1);
        c.is(x.upper(), 5);
        c.is(x.undo(0), 1);
        c.is(x.count(2), 0);
        c.is(x.undo(0), 0);
        c.is(x.undo(1), ClockFeet.BAD);
        c.is(new ClockFeet().undo(0), 0);
        c.is(new ClockFeet().undo(1), ClockFeet.BAD);
    }

    private static void keepAndOn(Checks c) {
        c.promise(18);
        ClockFeet none = new ClockFeet();
        c.is(none.keep(0), ClockFeet.STATE);
        c.is(none.keep(3), ClockFeet.BAD);
        c.is(none.count(10), 0);
        ClockFeet x = Halls.of("d12 g5 h4 e10");
        c.is(x.keep(2), 0);
        Halls.walk(x, 0, 0, 1);
        x.floor(1);
        c.is(x.keep(0), 4);
        c.is(x.count(10), 2);
        c.is(x.keep(3), ClockFeet.BAD);
        c.is(x.keep(-1), ClockFeet.BAD);
        c.promise(19);
        Halls.walk(x, 0, 0);
        x.undo(0);
        x.shoe(0, 9);
        x.walk(0);
        c.is(x.on(0), 4);
        c.is(x.count(2), 6);
        c.is(x.count(3), 1);
        c.is(x.count(5), 1);
        c.is(x.due(), 1);
        c.is(Halls.detail(x, 0, 1), 5);
        c.is(Halls.detail(x, 0, 4), 2);
        c.is(x.on(0), 4);
        c.is(x.on(2), 0);
        c.is(x.count(2), 0);
        c.is(x.count(5), 0);
        c.is(x.count(10), 2);
        c.finds(x, x.on(1), NOTHING);
        c.is(x.on(3), ClockFeet.BAD);
        c.is(x.on(-1), ClockFeet.BAD);
        c.finds(none, none.on(0), NOTHING);
    }

    /** What is kept stays as it is, whatever the HALL does then. */
    private static void keptByItself(Checks c) {
        c.promise(18);
        ClockFeet x = Halls.of("d60 g5 h4 g1 c7 t9 k2");
        x.shoe(5, 7);
        Halls.walk(x, 0, 1);
        x.keep(1);
        x.undo(0);
        x.shoe(0, 6);
        x.shoe(5, 8);
        Halls.walk(x, 1, 1, 1);
        c.is(x.keep(0), 3);
        c.is(x.on(1), 2);
        c.is(x.count(2), 13);
        c.is(Halls.detail(x, 5, 1), 7);
        x.walk(0);
        c.is(x.on(1), 2);
        c.is(x.count(2), 13);
        c.promise(19);
        c.is(x.on(0), 3);
        c.is(x.count(2), 24);
        c.is(Halls.detail(x, 0, 1), 6);
        c.is(Halls.detail(x, 5, 1), 8);
        c.is(x.keep(1), 3);
        c.is(x.on(1), 3);
        x.undo(0);
        c.is(x.shoe(0, 1), 6);
    }
}

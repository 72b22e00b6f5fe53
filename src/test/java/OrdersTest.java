/** Promises 24 to 26: orders, aside. */
final class OrdersTest {
    private OrdersTest() {
    }

    static void run(Checks c) {
        order(c);
        orderOfRents(c);
        orderRefused(c);
        quiet(c);
        cheap(c);
    }

    private static void holds(Checks c, ClockFeet x, int r, int... due) {
        for (int i = 0; i < due.length; i++) {
            c.is(Halls.cell(x, r, i), due[i]);
        }
        c.is(x.at(r, due.length), ClockFeet.FINDING);
    }

    private static void order(Checks c) {
        c.promise(24);
        ClockFeet x = Halls.of("d12 g1 g2 g3");
        x.row(2, 40);
        x.lay(2, 0, 77);
        x.at(2, 0);
        c.is(x.order(2, 3, 2), 0);
        c.is(x.asked(), 77);
        holds(c, x, 2, 2, 0, 1);
        c.is(x.order(2, 6, 5), 2);
        holds(c, x, 5, 0, 1, 2);
        c.is(x.order(2, 4, 2), 1);
        holds(c, x, 2, 0, 2, 1);
        c.is(x.order(2, 5, 2), 1);
        holds(c, x, 2, 1, 2, 0);
        c.is(x.order(2, 7, 2), ClockFeet.NONE);
        holds(c, x, 2, 1, 2, 0);
        c.is(x.order(2, 7, 4), ClockFeet.NONE);
        c.is(x.at(4, 0), ClockFeet.FINDING);
        c.is(x.count(8), 2);
        c.is(x.count(4), 0);
        c.is(x.count(2), 0);
        Halls.walk(x, 2, 2, 2);
        c.is(x.order(0, 0, 0), 1);
        holds(c, x, 0, 1, 0, 2);
        c.is(x.order(1, 11, 0), 0);
        holds(c, x, 0, 1, 0, 2);
        x.floor(1);
        c.is(x.order(0, 11, 0), 2);
        holds(c, x, 0, 1, 2, 0);
        c.is(x.order(2, 10, 0), 1);
        holds(c, x, 0, 0, 2, 1);
    }

    private static void orderOfRents(Checks c) {
        c.promise(24);
        ClockFeet x = Halls.of("d12 g1 g2 g3 e01");
        c.is(x.order(2, 6, 0), 2);
        holds(c, x, 0, 1, 0, 2);
        c.is(x.order(0, 1, 0), ClockFeet.NONE);
        ClockFeet last = Halls.of("d12 g1 g2 g3 e06");
        for (int tooth = 0; tooth < 12; tooth++) {
            c.is(last.order(0, tooth, 0), ClockFeet.NONE);
        }
        ClockFeet cats = Halls.of("d12 k1 g5 g2 e05");
        c.is(cats.order(1, 7, 0), 2);
        holds(c, cats, 0, 0, 2, 1);
        cats.walk(1);
        c.is(cats.order(0, 5, 0), ClockFeet.NONE);
        c.is(cats.order(0, 10, 0), 1);
        holds(c, cats, 0, 1, 0, 2);
    }

    private static void orderRefused(Checks c) {
        c.promise(24);
        ClockFeet x = Halls.of("d12 g1 g2");
        c.is(x.order(2, 0, 0), ClockFeet.BAD);
        c.is(x.order(-1, 0, 0), ClockFeet.BAD);
        c.is(x.order(0, 12, 0), ClockFeet.BAD);
        c.is(x.order(0, -1, 0), ClockFeet.BAD);
        c.is(x.order(0, 1, 6), ClockFeet.BAD);
        c.is(x.order(0, 1, -1), ClockFeet.BAD);
        c.is(x.count(8), 0);
        c.is(new ClockFeet().order(0, 0, 0), ClockFeet.BAD);
    }

    private static void quiet(Checks c) {
        c.promise(25);
        c.is(new ClockFeet().quiet(), ClockFeet.STATE);
        ClockFeet x = Halls.of("d12 g5 k1 g2 e05");
        x.walk(0);
        x.pace();
        x.undo(0);
        c.tells(x, x.quiet(), 3);
        c.is(x.upper(), 3);
        c.is(x.lower(), 1);
        x.walk(0);
        c.tells(x, x.quiet(), 7);
        c.is(x.upper(), 4);
        c.is(x.count(4), 1);
        ClockFeet none = Halls.of("d12 g1 g2 e03");
        c.tells(none, none.quiet(), 0);
        c.is(none.upper(), 0);
        c.is(none.lower(), 1);
        ClockFeet most = Halls.of("d60 g1 g1 g2 g2 g3 g3");
        c.tells(most, most.quiet(), 63);
        c.is(most.upper(), 720);
        ClockFeet one = Halls.of("d12 g1 g2 g3 e01 e02");
        c.tells(one, one.quiet(), 3);
        c.is(one.upper(), 2);
        ClockFeet alone = Halls.of("d12 g1");
        c.tells(alone, alone.quiet(), 1);
        c.is(alone.upper(), 1);
        one.floor(1);
        c.tells(one, one.quiet(), 0);
        c.is(one.upper(), 0);
    }

    private static void cheap(Checks c) {
        c.promise(26);
        c.is(new ClockFeet().cheap(), ClockFeet.STATE);
        ClockFeet x = Halls.of("d12 g1 g2 g3 e01 e02 e03");
        c.is(x.cheap(), 1);
        c.is(x.asked(), 13);
        x.walk(2);
        c.is(x.cheap(), 0);
        c.is(x.asked(), 8);
        c.is(x.count(4), 1);
        c.is(x.upper(), 0);
        ClockFeet none = Halls.of("d12 g1 g2 e01 e02 e03");
        c.is(none.cheap(), 2);
        c.is(none.asked(), 1);
        none.floor(2);
        c.is(none.cheap(), 0);
        none.floor(0);
        none.walk(0);
        none.floor(2);
        c.is(none.cheap(), 2);
        c.is(none.asked(), 1);
        ClockFeet alone = Halls.of("d12 g1");
        c.is(alone.cheap(), 0);
        c.is(alone.asked(), 0);
        ClockFeet turned = Halls.of("d60 h1 h2 h3 h4 h5 h6 e02 e06 e04");
        c.is(turned.cheap(), 0);
        c.is(turned.asked(), ((((3 * 6 + 0) * 6 + 1) * 6 + 2) * 6 + 4) * 6 + 5);
    }
}

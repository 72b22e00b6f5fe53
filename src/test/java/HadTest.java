/** Promises 27 to 30: what can be had. */
final class HadTest {
    private HadTest() {
    }

    static void run(Checks c) {
        fewest(c);
        fewestRefused(c);
        feet(c);
        never(c);
        keyed(c);
    }

    private static void fewestIs(Checks c, ClockFeet x, int tooth, int walks, int first) {
        c.is(x.fewest(tooth), walks);
        c.is(x.asked(), first);
    }

    private static void fewest(Checks c) {
        c.promise(27);
        ClockFeet x = Halls.of("d12 g5 g3");
        fewestIs(c, x, 0, 0, ClockFeet.NONE);
        fewestIs(c, x, 5, 1, 0);
        fewestIs(c, x, 3, 1, 1);
        fewestIs(c, x, 8, 2, 0);
        fewestIs(c, x, 6, 2, 1);
        fewestIs(c, x, 1, 3, 0);
        fewestIs(c, x, 11, 3, 0);
        fewestIs(c, x, 9, 3, 1);
        x.walk(0);
        fewestIs(c, x, 5, 0, ClockFeet.NONE);
        fewestIs(c, x, 0, 5, 0);
        c.is(x.count(4), 1);
        ClockFeet turned = Halls.of("d12 k1 g2 g4");
        fewestIs(c, turned, 8, 2, 2);
        fewestIs(c, turned, 6, 2, 1);
        turned.floor(1);
        fewestIs(c, turned, 1, 1, 1);
        fewestIs(c, turned, 2, 1, 2);
        ClockFeet longest = Halls.of("d60 g1");
        fewestIs(c, longest, 59, 59, 0);
        ClockFeet wound = Halls.of("d60 g7 k1");
        fewestIs(c, wound, 10, 10, 0);
        fewestIs(c, wound, 53, 59, 0);
        c.is(wound.feet(53), 59 * 7);
        ClockFeet rents = Halls.of("d12 g2 e02");
        fewestIs(c, rents, 4, 2, 0);
    }

    private static void fewestRefused(Checks c) {
        c.promise(27);
        ClockFeet x = Halls.of("d12 g2 g4");
        c.is(x.fewest(4), 1);
        c.is(x.fewest(1), ClockFeet.NONE);
        c.is(x.asked(), 1);
        c.is(x.fewest(12), ClockFeet.BAD);
        c.is(x.fewest(-1), ClockFeet.BAD);
        x.floor(2);
        c.is(x.fewest(2), ClockFeet.NONE);
        c.is(x.asked(), 1);
        fewestIs(c, x, 0, 0, ClockFeet.NONE);
        c.is(new ClockFeet().fewest(0), ClockFeet.BAD);
    }

    private static void feet(Checks c) {
        c.promise(28);
        ClockFeet x = Halls.of("d12 h3 g7");
        c.is(x.feet(0), 0);
        c.is(x.feet(6), 3);
        c.is(x.feet(7), 7);
        c.is(x.feet(1), 10);
        c.is(x.feet(2), 14);
        c.is(x.feet(8), 17);
        c.is(x.asked(), 0);
        x.walk(0);
        c.is(x.feet(6), 0);
        c.is(x.feet(0), 3);
        c.is(x.feet(1), 7);
        ClockFeet cheaper = Halls.of("d12 g6 h1");
        c.is(cheaper.feet(6), 3);
        cheaper.floor(1);
        c.is(cheaper.feet(6), 6);
        c.is(cheaper.feet(1), 1);
        ClockFeet even = Halls.of("d12 g2 k1");
        c.is(even.feet(10), 10);
        c.is(even.feet(1), ClockFeet.NONE);
        c.is(even.feet(12), ClockFeet.BAD);
        c.is(even.feet(-1), ClockFeet.BAD);
        c.is(new ClockFeet().feet(0), ClockFeet.BAD);
        c.is(Halls.of("d60 t9 c2").feet(59), 2 * 59);
        c.is(Halls.of("d60 t9 c4").feet(59), 4 * 17 + 9 * 2);
    }

    private static void never(Checks c) {
        c.promise(29);
        c.is(new ClockFeet().never(), ClockFeet.STATE);
        ClockFeet x = Halls.of("d12 g4 g6");
        c.is(x.never(), 6);
        c.is(x.asked(), 1);
        x.floor(1);
        c.is(x.never(), 0);
        c.is(x.asked(), ClockFeet.NONE);
        x.floor(2);
        c.is(x.never(), 11);
        c.is(x.asked(), 1);
        ClockFeet turned = Halls.of("d12 g3");
        turned.floor(1);
        turned.walk(0);
        turned.floor(0);
        c.is(turned.never(), 8);
        c.is(turned.asked(), 0);
        turned.floor(2);
        c.is(turned.never(), 11);
        c.is(turned.asked(), 0);
        c.is(turned.count(4), 4);
        ClockFeet cats = Halls.of("d13 k9");
        c.is(cats.never(), 12);
        c.is(Halls.of("d60 g7").never(), 0);
    }

    private static void keyed(Checks c) {
        c.promise(30);
        c.is(new ClockFeet().keyed(), ClockFeet.STATE);
        c.is(Halls.of("d12 g4 g6").keyed(), 3);
        c.is(Halls.of("d12 g2 g4").keyed(), 1);
        c.is(Halls.of("d12 g4 g2").keyed(), 2);
        c.is(Halls.of("d12 g2 g2").keyed(), 0);
        c.is(Halls.of("d12 k2 k3").keyed(), 0);
        c.is(Halls.of("d12 h6").keyed(), 0);
        c.is(Halls.of("d12 g5 g7").keyed(), 0);
        c.is(Halls.of("d30 g6 g3 g5 k1 g3").keyed(), 4);
        ClockFeet x = Halls.of("d12 g4 g6");
        x.floor(1);
        c.is(x.keyed(), 3);
        x.undo(0);
        x.shoe(1, 8);
        c.is(x.keyed(), 0);
        x.floor(2);
        c.is(x.keyed(), 0);
        c.is(x.asked(), 0);
    }
}

/** Promises 34 to 36: one GUILD that walks again and again. */
final class AgainTest {
    private AgainTest() {
    }

    static void run(Checks c) {
        noon(c);
        both(c);
        bothRefused(c);
        rent(c);
    }

    private static void noon(Checks c) {
        c.promise(34);
        ClockFeet x = Halls.of("d12 g5 g4 k1 h9");
        c.is(x.noon(0), 12);
        c.is(x.noon(1), 3);
        c.is(x.noon(2), 1);
        c.is(x.noon(3), 2);
        x.walk(0);
        c.is(x.noon(0), 11);
        c.is(x.noon(1), ClockFeet.NONE);
        c.is(x.noon(2), ClockFeet.NONE);
        c.is(x.noon(3), ClockFeet.NONE);
        x.floor(2);
        c.is(x.noon(0), ClockFeet.NONE);
        c.is(x.count(4), 2);
        x.undo(0);
        x.floor(1);
        c.is(x.noon(0), 6);
        c.is(x.noon(3), 4);
        c.is(x.noon(4), ClockFeet.BAD);
        c.is(x.noon(-1), ClockFeet.BAD);
        c.is(x.asked(), 0);
        c.is(Halls.of("d59 g9").noon(0), 59);
        c.is(Halls.of("d12 h6").noon(0), 1);
        c.is(new ClockFeet().noon(0), ClockFeet.BAD);
    }

    private static void bothIs(Checks c, ClockFeet x, int n, int tooth, int walks, int rounds) {
        c.is(x.both(0, n, tooth), walks);
        c.is(x.asked(), rounds);
    }

    private static void both(Checks c) {
        c.promise(35);
        ClockFeet x = Halls.of("d12 g5");
        bothIs(c, x, 12, 0, 12, 5);
        bothIs(c, x, 13, 0, 156, 65);
        bothIs(c, x, 60, 0, 12, 5);
        x.walk(0);
        bothIs(c, x, 60, 5, 11, 5);
        bothIs(c, x, 12, 5, 11, 5);
        bothIs(c, x, 13, 5, 155, 65);
        c.is(x.both(0, 12, 4), ClockFeet.NONE);
        c.is(x.asked(), 65);
        ClockFeet longest = Halls.of("d60 g1");
        bothIs(c, longest, 59, 0, 3540, 59);
        bothIs(c, longest, 60, 0, 60, 1);
        bothIs(c, longest, 59, 58, 60, 1);
        bothIs(c, longest, 59, 1, 3480, 58);
        ClockFeet fast = Halls.of("d12 h9");
        bothIs(c, fast, 12, 0, 2, 3);
        bothIs(c, fast, 24, 0, 4, 6);
        ClockFeet whole = Halls.of("d12 h6");
        bothIs(c, whole, 13, 1, 1, 1);
        bothIs(c, whole, 13, 2, 2, 2);
        bothIs(c, whole, 13, 0, 13, 13);
        c.is(whole.both(0, 24, 6), ClockFeet.NONE);
        ClockFeet cats = Halls.of("d12 k1 g1");
        bothIs(c, cats, 12, 0, 1, 0);
        c.is(cats.both(0, 12, 1), ClockFeet.NONE);
        cats.walk(1);
        c.is(cats.both(0, 12, 0), ClockFeet.NONE);
        x.floor(1);
        bothIs(c, x, 12, 5, ClockFeet.NONE, 65);
        bothIs(c, x, 13, 0, ClockFeet.NONE, 65);
    }

    private static void bothRefused(Checks c) {
        c.promise(35);
        ClockFeet x = Halls.of("d12 g5");
        c.is(x.both(1, 12, 0), ClockFeet.BAD);
        c.is(x.both(-1, 12, 0), ClockFeet.BAD);
        c.is(x.both(0, 11, 0), ClockFeet.BAD);
        c.is(x.both(0, 61, 0), ClockFeet.BAD);
        c.is(x.both(0, 12, 12), ClockFeet.BAD);
        c.is(x.both(0, 12, -1), ClockFeet.BAD);
        c.is(x.both(0, 13, 12), 60);
        c.is(new ClockFeet().both(0, 12, 0), ClockFeet.BAD);
    }

    private static void rent(Checks c) {
        c.promise(36);
        ClockFeet x = Halls.of("d12 g5 k1 g4 e03");
        c.is(x.rent(0), 3);
        c.is(x.asked(), 15);
        c.is(x.rent(1), ClockFeet.NONE);
        c.is(x.rent(2), ClockFeet.NONE);
        c.is(x.asked(), 15);
        Halls.walk(x, 0, 0, 0);
        c.is(x.rent(1), 1);
        c.is(x.asked(), 0);
        c.is(x.rent(0), 12);
        c.is(x.asked(), 60);
        c.is(x.rent(2), 3);
        c.is(x.asked(), 12);
        x.floor(1);
        c.is(x.rent(0), 6);
        c.is(x.asked(), 12);
        x.floor(2);
        c.is(x.rent(0), 1);
        c.is(x.asked(), 0);
        c.is(x.due(), 1);
        c.is(x.rent(3), ClockFeet.BAD);
        c.is(x.rent(-1), ClockFeet.BAD);
        ClockFeet two = Halls.of("d60 g7 e59 e49");
        c.is(two.rent(0), 7);
        c.is(two.asked(), 49);
        c.is(Halls.of("d60 g1 e59").rent(0), 59);
        c.is(new ClockFeet().rent(0), ClockFeet.BAD);
    }
}

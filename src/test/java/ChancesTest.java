/** Promises 37 and 38: chances, lots. */
final class ChancesTest {
    private ChancesTest() {
    }

    static void run(Checks c) {
        odds(c);
        oddsRefused(c);
        lots(c);
        lotsOfFloors(c);
        lotsRefused(c);
    }

    private static void oddsAre(Checks c, ClockFeet x, int tooth, int n, long upper, long lower) {
        c.is(x.odds(tooth, n), 1);
        c.is(x.upper(), upper);
        c.is(x.lower(), lower);
    }

    private static void odds(Checks c) {
        c.promise(37);
        ClockFeet x = Halls.of("d12 g1 g2");
        oddsAre(c, x, 2, 2, 1, 4);
        oddsAre(c, x, 3, 2, 1, 2);
        oddsAre(c, x, 5, 2, 0, 1);
        oddsAre(c, x, 0, 0, 1, 1);
        oddsAre(c, x, 1, 0, 0, 1);
        oddsAre(c, x, 3, 10, 63, 256);
        c.is(x.asked(), 0);
        x.walk(1);
        oddsAre(c, x, 5, 2, 1, 2);
        oddsAre(c, x, 5, 10, 63, 256);
        oddsAre(c, x, 2, 0, 1, 1);
        c.is(x.count(4), 1);
        x.floor(1);
        oddsAre(c, x, 2, 2, 1, 4);
        x.floor(2);
        oddsAre(c, x, 2, 10, 1, 1);
        ClockFeet three = Halls.of("d12 g1 g1 g4");
        oddsAre(c, three, 1, 1, 2, 3);
        oddsAre(c, three, 5, 2, 4, 9);
        ClockFeet six = Halls.of("d60 g1 g2 g2 g2 g2 g2");
        oddsAre(c, six, 10, 10, 1, 60466176);
        oddsAre(c, six, 20, 10, 9765625, 60466176);
        oddsAre(c, Halls.of("d12 h9"), 0, 2, 1, 1);
    }

    private static void oddsRefused(Checks c) {
        c.promise(37);
        ClockFeet x = Halls.of("d12 g1 g2");
        c.is(x.odds(12, 0), ClockFeet.BAD);
        c.is(x.odds(-1, 0), ClockFeet.BAD);
        c.is(x.odds(0, 11), ClockFeet.BAD);
        c.is(x.odds(0, -1), ClockFeet.BAD);
        c.is(x.upper(), 0);
        c.is(x.lower(), 1);
        c.is(new ClockFeet().odds(0, 0), ClockFeet.BAD);
    }

    /** The same STEPS one by one on another object. */
    private static int takeLots(ClockFeet y, int n, long seed) {
        long number = seed;
        for (int i = 0; i < n; i++) {
            number = number * 48271 % 2147483647;
            if (number % 16 == 0) {
                y.floor((y.count(5) + 1) % 3);
            } else {
                y.walk((int) (number / 16 % y.count(0)));
            }
        }
        return y.count(2);
    }

    private static void lots(Checks c) {
        c.promise(38);
        String signs = "d31 g5 h4 r7 c6 t9 e07 e21";
        int[] seeds = {1, 2, 77, 4711, 31337, 1000000007, 2147483645, 2147483646};
        for (int seed : seeds) {
            for (int n = 1; n <= 30; n += n < 4 ? 1 : 13) {
                ClockFeet x = Halls.of(signs);
                ClockFeet y = Halls.of(signs);
                c.is(x.lots(n, seed), takeLots(y, n, seed));
                c.is(x.count(4), n);
                c.is(x.digest(), y.digest());
                c.is(x.lots(30, seed), takeLots(y, 30, seed));
                c.is(x.digest(), y.digest());
            }
        }
        ClockFeet alone = Halls.of("d12 g5");
        c.is(alone.lots(1, 1), 5);
        ClockFeet pair = Halls.of("d12 g5 g7");
        c.is(pair.lots(2, 1), 10);
    }

    /** Of seeds that follow one another some sixteenth is a FLOOR, the next one each time. */
    private static void lotsOfFloors(Checks c) {
        c.promise(38);
        ClockFeet x = Halls.of("d12 g5");
        int floors = 0;
        for (int seed = 1; seed <= 200 && floors < 6; seed++) {
            if (seed * 48271L % 2147483647 % 16 == 0) {
                int before = x.count(5);
                int tooth = x.count(2);
                c.is(x.lots(1, seed), tooth);
                floors++;
                c.is(x.count(5), (before + 1) % 3);
                c.is(x.count(4), floors);
            }
        }
        c.is(floors, 6);
        c.is(x.count(5), 0);
    }

    private static void lotsRefused(Checks c) {
        c.promise(38);
        ClockFeet none = new ClockFeet();
        c.is(none.lots(1, 1), ClockFeet.STATE);
        c.is(none.lots(0, 1), ClockFeet.BAD);
        ClockFeet x = Halls.of("d12 g5");
        c.is(x.lots(0, 1), ClockFeet.BAD);
        c.is(x.lots(31, 1), ClockFeet.BAD);
        c.is(x.lots(-1, 1), ClockFeet.BAD);
        c.is(x.lots(1, 0), ClockFeet.BAD);
        c.is(x.lots(1, -5), ClockFeet.BAD);
        c.is(x.lots(1, 2147483647), ClockFeet.BAD);
        c.is(x.count(4), 0);
        x.lots(30, 9);
        x.walk(0);
        long before = x.digest();
        c.is(x.lots(30, 9), ClockFeet.FULL);
        c.is(x.lots(31, 9), ClockFeet.BAD);
        c.is(x.digest(), before);
        x.lots(29, 9);
        c.is(x.count(4), 60);
        c.is(x.lots(1, 9), ClockFeet.FULL);
    }
}

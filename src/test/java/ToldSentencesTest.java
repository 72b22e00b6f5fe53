/** The sentences of promises 37 to 45, one by one. */
final class ToldSentencesTest {
    private static final int NOTHING = 1, BEYOND = 2, UNLIKE = 3, NOUGHT = 4, SIZE = 5;
    private static final int BAD = ClockFeet.BAD, FULL = ClockFeet.FULL, STATE = ClockFeet.STATE, NONE = ClockFeet.NONE;
    private static final int LEAST = Integer.MIN_VALUE, MOST = Integer.MAX_VALUE;

    private ToldSentencesTest() {
    }

    static void run(Checks c) {
        odds(c);
        lots(c);
        lotsRefused(c);
        asked(c);
        askedStays(c);
        upper(c);
        lower(c);
        count(c);
        finding(c);
        findings(c);
        digest(c);
    }

    private static void odds(Checks c) {
        c.sentence(37, "Chances that it is at a TOOTH behind n (0 .. 10) walks, each of any GUILD, alike likely, "
            + "told by upper(), lower(): 1.");
        ClockFeet x = Halls.of("d12 g1 g2 g1");
        c.ratio(x, x.odds(0, 0), 1, 1);
        c.ratio(x, x.odds(1, 0), 0, 1);
        c.ratio(x, x.odds(11, 0), 0, 1);
        c.ratio(x, x.odds(1, 1), 2, 3);
        c.ratio(x, x.odds(2, 1), 1, 3);
        c.ratio(x, x.odds(2, 2), 4, 9);
        c.ratio(x, x.odds(3, 2), 4, 9);
        c.ratio(x, x.odds(4, 2), 1, 9);
        c.ratio(x, x.odds(8, 10), 1, 59049);
        c.ratio(x, x.odds(10, 10), 1024, 59049);
        c.ratio(x, x.odds(7, 10), 20, 59049);
        c.ratio(x, x.odds(9, 10), 0, 1);
        x.walk(0);
        c.ratio(x, x.odds(1, 0), 1, 1);
        c.ratio(x, x.odds(0, 0), 0, 1);
        c.ratio(x, x.odds(2, 1), 2, 3);
        x.floor(1);
        c.ratio(x, x.odds(2, 1), 1, 3);
        x.floor(2);
        c.ratio(x, x.odds(1, 10), 1, 1);
        c.ratio(x, x.odds(2, 10), 0, 1);
        ClockFeet six = Halls.of("d60 g1 k1 k1 k1 k1 k1");
        c.ratio(six, six.odds(0, 10), 9765625, 60466176);
        c.ratio(six, six.odds(10, 10), 1, 60466176);
        c.ratio(six, six.odds(11, 10), 0, 1);
        ClockFeet alone = Halls.of("d60 h9 e18");
        c.ratio(alone, alone.odds(0, 10), 1, 1);
        c.is(alone.asked(), 0);
        Twins.tellsRatio(c, Halls::busy, y -> y.odds(0, 10));
        c.sentence(37, "BAD: also a TOOTH that there is not.");
        Twins.changesNothing(c, Halls::busy, BAD, y -> y.odds(12, 0));
        Twins.changesNothing(c, Halls::busy, BAD, y -> y.odds(-1, 0));
        Twins.changesNothing(c, Halls::busy, BAD, y -> y.odds(MOST, 1));
        Twins.changesNothing(c, Halls::busy, BAD, y -> y.odds(0, 11));
        Twins.changesNothing(c, Halls::busy, BAD, y -> y.odds(0, -1));
        Twins.changesNothing(c, Halls::busy, BAD, y -> y.odds(0, LEAST));
        Twins.changesNothing(c, Halls::busy, BAD, y -> y.odds(0, MOST));
        Twins.changesNothing(c, Halls::empty, BAD, y -> y.odds(0, 0));
        c.is(Halls.busy().odds(11, 0), 1);
    }

    /** The STEPS of one lot after the other, told apart from the class. */
    private static String stepsOf(int n, long seed, int guilds, int ground) {
        StringBuilder steps = new StringBuilder();
        long number = seed;
        int now = ground;
        for (int i = 0; i < n; i++) {
            number = number * 48271L % 2147483647L;
            if (number % 16 == 0) {
                now = now == 2 ? 0 : now + 1;
                steps.append('f').append(now);
            } else {
                steps.append('w').append(number / 16 % guilds);
            }
        }
        return steps.toString();
    }

    private static int take(ClockFeet x, String steps) {
        for (int i = 0; i + 1 < steps.length(); i += 2) {
            int which = steps.charAt(i + 1) - '0';
            if (steps.charAt(i) == 'f') {
                x.floor(which);
            } else {
                x.walk(which);
            }
        }
        return x.count(2);
    }

    private static void lots(Checks c) {
        c.sentence(38, "n (1 .. 30) STEPS truly by LOTS of a seed: a number comes from the one ahead by 48271 times it modulo "
            + "2147483647, the first from the seed (1 .. 2147483646):");
        ClockFeet x = Halls.of("d60 g1 g2 g3 g4 g5 g6");
        c.is(x.lots(1, 1), 48271 / 16 % 6 + 1);
        x.undo(0);
        c.is(x.lots(2, 1), take(Halls.of("d60 g1 g2 g3 g4 g5 g6"), stepsOf(2, 1, 6, 0)));
        c.is(x.count(4), 2);
        x.undo(0);
        c.is(x.lots(1, 2147483646), (2147483647 - 48271) % 16 == 0 ? 0 : (2147483647 - 48271) / 16 % 6 + 1);
        x.undo(0);
        c.is(x.lots(30, 1) >= 0 ? 1 : 0, 1);
        c.is(x.count(4), 30);
        c.is(x.lots(30, 2147483646) >= 0 ? 1 : 0, 1);
        c.is(x.count(4), 60);
        for (int seed = 1; seed < 2000000000; seed += 61234567) {
            for (int guilds = 1; guilds <= 6; guilds++) {
                String signs = "d47g1h2r3c4t9g5".substring(0, 3 + 2 * guilds) + "e07e21";
                ClockFeet one = Halls.of(signs);
                ClockFeet other = Halls.of(signs);
                c.is(one.lots(30, seed), take(other, stepsOf(30, seed, guilds, 0)));
                c.is(one.digest(), other.digest());
            }
        }
        c.sentence(38, "if 16 divides it, the FLOOR is the next one (of 2: 0),");
        int seed = 1;
        while (seed * 48271L % 2147483647L % 16 != 0) {
            seed++;
        }
        ClockFeet floors = Halls.of("d12 g5");
        floors.walk(0);
        for (int due = 1; due <= 4; due++) {
            c.is(floors.lots(1, seed), 5);
            c.is(floors.count(5), due % 3);
            c.is(floors.count(4), 1 + due);
        }
        c.sentence(38, "else the GUILD walks that is it by 16, cut, modulo how many there are: the TOOTH then.");
        for (int guilds = 1; guilds <= 6; guilds++) {
            ClockFeet y = Halls.of("d12g1g2g3g4g5g6".substring(0, 3 + 2 * guilds));
            for (int number = 2; number <= 12; number++) {
                y.undo(0);
                long lot = number * 48271L % 2147483647L;
                c.is(y.lots(1, number), lot % 16 == 0 ? 0 : lot / 16 % guilds + 1);
            }
        }
    }

    private static void lotsRefused(Checks c) {
        c.sentence(38, "BAD;");
        Twins.changesNothing(c, Halls::early, BAD, y -> y.lots(0, 1));
        Twins.changesNothing(c, Halls::early, BAD, y -> y.lots(31, 1));
        Twins.changesNothing(c, Halls::early, BAD, y -> y.lots(-1, 1));
        Twins.changesNothing(c, Halls::early, BAD, y -> y.lots(MOST, 1));
        Twins.changesNothing(c, Halls::early, BAD, y -> y.lots(1, 0));
        Twins.changesNothing(c, Halls::early, BAD, y -> y.lots(1, -1));
        Twins.changesNothing(c, Halls::early, BAD, y -> y.lots(1, LEAST));
        Twins.changesNothing(c, Halls::early, BAD, y -> y.lots(1, MOST));
        Twins.changesNothing(c, Halls::empty, BAD, y -> y.lots(0, 1));
        Twins.changesNothing(c, Halls::empty, BAD, y -> y.lots(1, 0));
        c.is(Halls.early().lots(30, MOST - 1) >= 0 ? 1 : 0, 1);
        c.is(Halls.early().lots(1, 1) >= 0 ? 1 : 0, 1);
        c.sentence(38, "STATE: no GUILDS;");
        Twins.changesNothing(c, Halls::empty, STATE, y -> y.lots(1, 1));
        Twins.changesNothing(c, Halls::empty, STATE, y -> y.lots(30, MOST - 1));
        c.sentence(38, "FULL: with n more there would be more than 60 STEPS.");
        Twins.changesNothing(c, Halls::full, FULL, y -> y.lots(1, 1));
        Twins.changesNothing(c, ToldSentencesTest::half, FULL, y -> y.lots(30, 1));
        ClockFeet x = half();
        c.is(x.lots(29, 1) >= 0 ? 1 : 0, 1);
        c.is(x.count(4), 60);
        x.undo(30);
        c.is(x.lots(30, 1) >= 0 ? 1 : 0, 1);
        c.is(x.count(4), 60);
        x.undo(59);
        c.is(x.lots(2, 1), FULL);
        c.is(x.count(4), 59);
        c.is(x.lots(1, 1) >= 0 ? 1 : 0, 1);
        c.sentence(38, "(FULL last.)");
        Twins.changesNothing(c, Halls::full, BAD, y -> y.lots(31, 1));
        Twins.changesNothing(c, Halls::full, BAD, y -> y.lots(1, 0));
        Twins.changesNothing(c, Halls::empty, STATE, y -> y.lots(30, 1));
    }

    /** 31 STEPS. */
    private static ClockFeet half() {
        ClockFeet x = Halls.full();
        x.undo(31);
        return x;
    }

    private static void asked(Checks c) {
        c.sentence(39, "What the latest lay(), at(), mean(), guild(), hour(), due(), after(), quiet(), cheap(), fewest(), never(), "
            + "fits(), sure(), ask(), both(), rent()");
        ClockFeet x = Halls.busy();
        c.is(x.asked(), 77);
        x.lay(2, 1, 44);
        c.is(x.asked(), -5);
        x.at(2, 1);
        c.is(x.asked(), 44);
        x.mean(2);
        c.is(x.asked(), 60);
        x.guild(5, 1);
        c.is(x.asked(), 9);
        x.hour();
        c.is(x.asked(), 0);
        x.walk(1);
        x.hour();
        c.is(x.asked(), 1);
        x.undo(6);
        x.due();
        c.is(x.asked(), 0);
        x.at(2, 0);
        x.after(1);
        c.is(x.asked(), 0);
        x.quiet();
        c.is(x.asked(), 59);
        x.cheap();
        c.is(x.asked(), 1865);
        x.fewest(5);
        c.is(x.asked(), 0);
        x.never();
        c.is(x.asked(), NONE);
        x.fits(5);
        c.is(x.asked(), 7);
        x.sure(0);
        c.is(x.asked(), 55);
        x.ask(5);
        c.is(x.asked(), 6);
        x.both(2, 13, 0);
        c.is(x.asked(), 2);
        x.rent(0);
        c.is(x.asked(), 6);
        c.is(x.asked(), 6);
    }

    private static void askedStays(Checks c) {
        c.sentence(39, "that was not refused (nor NONE) told;");
        ClockFeet x = Halls.busy();
        x.lay(6, 0, 1);
        x.lay(4, 0, 1);
        x.lay(0, 3, 1);
        x.at(6, 0);
        x.at(4, 0);
        x.at(0, 3);
        x.mean(6);
        x.mean(4);
        x.mean(1);
        x.guild(6, 0);
        x.guild(0, 5);
        c.is(x.asked(), 77);
        x.after(6);
        x.after(4);
        x.after(2);
        x.fewest(12);
        x.fits(12);
        x.sure(12);
        x.ask(12);
        x.both(6, 12, 0);
        x.rent(6);
        c.is(x.asked(), 77);
        x.both(3, 12, 0);
        x.rent(3);
        c.is(x.asked(), 77);
        x.floor(2);
        x.fewest(0);
        x.sure(1);
        x.ask(1);
        c.is(x.asked(), 77);
        ClockFeet empty = Halls.empty();
        empty.hour();
        empty.after(0);
        empty.quiet();
        empty.cheap();
        empty.never();
        c.is(empty.asked(), 77);
        others(c);
        c.sentence(39, "0 before.");
        ClockFeet fresh = new ClockFeet();
        c.is(fresh.asked(), 0);
        fresh.row(0, 5);
        fresh.at(0, 5);
        c.is(fresh.asked(), 0);
    }

    /** What other calls answer is not what asked() tells. */
    private static void others(Checks c) {
        ClockFeet x = Halls.busy();
        x.row(5, 3);
        x.copy(0, 0, 5, 0, 3);
        x.tear(5);
        x.text(2, 5);
        x.put(2, 0, 'd');
        x.fault(2);
        x.mark(1, 1);
        x.mark(5, 5);
        x.walk(0);
        x.floor(0);
        x.undo(6);
        x.keep(1);
        x.on(1);
        x.order(0, 1, 5);
        x.feet(0);
        x.keyed();
        x.noon(1);
        x.lots(3, 3);
        x.upper();
        x.lower();
        x.count(1);
        x.finding();
        x.findings(1);
        x.digest();
        x.undo(0);
        x.shoe(1, 1);
        x.hall(1);
        c.is(x.asked(), 77);
        c.is(x.upper(), 11);
        c.is(x.lower(), 5);
        x.odds(3, 3);
        x.walk(0);
        x.pace();
        c.is(x.asked(), 77);
    }

    private static void upper(Checks c) {
        c.sentence(40, "The upper number that was told last;");
        ClockFeet x = Halls.busy();
        c.is(x.upper(), 11);
        x.quiet();
        c.is(x.upper(), 432);
        x.fits(5);
        c.is(x.upper(), 12);
        x.odds(11, 0);
        c.is(x.upper(), 1);
        x.odds(0, 0);
        c.is(x.upper(), 0);
        x.pace();
        c.is(x.upper(), 11);
        x.odds(12, 0);
        x.fits(-1);
        x.mean(0);
        x.cheap();
        x.fewest(0);
        x.hall(1);
        c.is(x.upper(), 11);
        c.finds(x, x.pace(), NOUGHT);
        c.is(x.upper(), 11);
        c.sentence(40, "0 before.");
        c.is(new ClockFeet().upper(), 0);
        ClockFeet fresh = Halls.of("d12 g1");
        c.is(fresh.upper(), 0);
        fresh.pace();
        c.is(fresh.upper(), 0);
    }

    private static void lower(Checks c) {
        c.sentence(41, "Its lower number;");
        ClockFeet x = Halls.busy();
        c.is(x.lower(), 5);
        x.quiet();
        c.is(x.lower(), 1);
        x.pace();
        c.is(x.lower(), 5);
        x.fits(0);
        c.is(x.lower(), 1);
        x.odds(1, 1);
        c.is(x.lower(), 3);
        x.odds(12, 0);
        x.hall(1);
        x.pace();
        c.is(x.lower(), 3);
        x.odds(3, 1);
        c.is(x.lower(), 1);
        c.sentence(41, "1 before.");
        c.is(new ClockFeet().lower(), 1);
        ClockFeet fresh = Halls.of("d12 g1");
        fresh.pace();
        c.is(fresh.lower(), 1);
    }

    private static void count(Checks c) {
        int[] empty = {0, 0, 0, 0, 0, 0, 0, 0, 4, 3, 0};
        int[] busy = {6, 12, 11, 0, 6, 1, 2, 2, 4, 4, 2};
        int[] later = {6, 12, 3, 1, 9, 2, 2, 2, 3, 4, 3};
        String[] words = {"0 GUILDS,", "1 TEETH (0 without GUILDS),", "2 the TOOTH,", "3 ROUNDS,", "4 STEPS,", "5 the FLOOR,",
            "6 RENTS,", "7 HEAVY ones (REGIMENTS, too),", "8 ROWS,", "9 TEXTS that are there,", "10 kept HALLS."};
        ClockFeet before = Halls.empty();
        ClockFeet x = Halls.busy();
        ClockFeet y = Halls.busy();
        y.floor(0);
        y.walk(5);
        y.floor(2);
        y.keep(1);
        y.tear(3);
        for (int what = 0; what <= 10; what++) {
            c.sentence(42, words[what]);
            c.is(new ClockFeet().count(what), 0);
            c.is(before.count(what), empty[what]);
            c.is(x.count(what), busy[what]);
            c.is(y.count(what), later[what]);
        }
        c.is(Halls.of("d60 h1 r1 h1 r1 h1 r1").count(7), 6);
        c.is(Halls.of("d60 g1 c1 k1 t1").count(7), 0);
        c.sentence(42, "BAD.");
        Twins.changesNothing(c, Halls::busy, BAD, z -> z.count(-1));
        Twins.changesNothing(c, Halls::busy, BAD, z -> z.count(11));
        Twins.changesNothing(c, Halls::busy, BAD, z -> z.count(LEAST));
        Twins.changesNothing(c, Halls::empty, BAD, z -> z.count(MOST));
    }

    private static void finding(Checks c) {
        c.sentence(43, "The latest FINDING (0 before any).");
        ClockFeet x = new ClockFeet();
        c.is(x.finding(), 0);
        x.row(6, 0);
        x.hour();
        c.is(x.finding(), 0);
        x.pace();
        c.is(x.finding(), NOUGHT);
        x.row(0, -1);
        c.is(x.finding(), SIZE);
        x.row(0, 1);
        x.row(6, 0);
        x.hall(0);
        c.is(x.finding(), NOTHING);
        x.at(0, 1);
        c.is(x.finding(), BEYOND);
        Halls.write(x, 0, "d12g1");
        x.hall(0);
        c.is(x.finding(), BEYOND);
        x.mark(0, 1);
        c.is(x.finding(), UNLIKE);
        x.finding();
        x.digest();
        c.is(x.finding(), UNLIKE);
    }

    private static void findings(Checks c) {
        c.sentence(44, "How often a FINDING (1 .. 5) was answered.");
        ClockFeet x = Halls.of("d12g1");
        for (int f = 1; f <= 5; f++) {
            c.is(x.findings(f), 0);
        }
        x.row(0, 0);
        for (int i = 0; i < 5; i++) {
            x.tear(1);
            if (i < 4) {
                x.at(0, 0);
            }
            if (i < 3) {
                x.mark(0, 1);
            }
            if (i < 2) {
                x.mean(0);
            }
        }
        x.text(0, -1);
        for (int f = 1; f <= 5; f++) {
            c.is(x.findings(f), 6 - f);
        }
        x.row(6, 0);
        x.hall(0);
        c.is(x.findings(NOTHING), 5);
        c.sentence(44, "BAD.");
        Twins.changesNothing(c, Halls::busy, BAD, y -> y.findings(0));
        Twins.changesNothing(c, Halls::busy, BAD, y -> y.findings(6));
        Twins.changesNothing(c, Halls::busy, BAD, y -> y.findings(-1));
        Twins.changesNothing(c, Halls::busy, BAD, y -> y.findings(MOST));
    }

    private static long fold(long h, long... values) {
        for (long v : values) {
            h = 31 * h + v;
        }
        return h;
    }

    private static void digest(Checks c) {
        ClockFeet x = Halls.busy();
        x.row(3, 2);
        x.put(1, 0, 200);
        x.text(3, 1);
        x.at(2, 0);
        c.sentence(45, "h = 17; then h = 31 h + v for each v");
        c.is(new ClockFeet().digest(), fold(fold(17, new long[12]), -1, -1, -1, -1, -1, -1, -1, -1, -1, -1, -1, -1, -1));
        c.sentence(45, "(of a call that tells by asked(): what it tells, not the 1 that it answers; asked() stays):");
        long h = x.digest();
        c.is(x.asked(), 77);
        c.is(x.digest(), h);
        c.is(x.asked(), 77);
        c.sentence(45, "count() 0 to 10;");
        long due = fold(17, 6, 12, 11, 0, 6, 1, 2, 2, 4, 4, 2);
        due = fold(due, 1);
        due = fold(due, 0, 5, 2, 5, 2, 1, 2, 2, 4, 1, 2, 4, 1, 3, 0);
        due = fold(due, 3, 1, 0, 0, 1, 4, 3, 2, 5, 1, 5, 9, 2, 4, 0);
        due = fold(due, 2, -1, 5);
        due = fold(due, 3, 1, 2, 0, 0, 2, 77, -5, 2, 0, 0, -1, -1);
        due = fold(due, 3, 'd', '1', '2', 6, -56, '1', '3', ' ', 'g', '4', 0, 1, ' ');
        c.is(h, due);
        c.sentence(45, "how many RENTS have fallen DUE;");
        ClockFeet rent = Halls.of("d12 g5 g5 e05");
        ClockFeet other = Halls.of("d12 g5 g5 e04");
        Halls.walk(rent, 0);
        Halls.walk(other, 0);
        rent.text(0, 0);
        other.text(0, 0);
        c.is(rent.digest() - other.digest(), power(10 + 3 + 6 + 4));
        c.sentence(45, "of each GUILD guild() 0 to 4;");
        ClockFeet walker = Halls.of("d12 g5 g5");
        ClockFeet otherWalker = Halls.of("d12 g5 g5");
        walker.walk(0);
        otherWalker.walk(1);
        walker.text(0, 0);
        otherWalker.text(0, 0);
        c.is(walker.digest() - otherWalker.digest(), power(5 + 3 + 6 + 4) - power(3 + 6 + 4));
        c.sentence(45, "of each kept HALL how many STEPS (-1: missing);");
        long before = walker.digest();
        walker.keep(2);
        c.is(walker.digest() - before, 2 * power(6 + 4) + power(1 + 10 + 3 + 6 + 4));
        c.sentence(45, "of each ROW its size (-1: missing) and places,");
        before = walker.digest();
        walker.row(5, 0);
        c.is(walker.digest() - before, power(4) + power(2 + 1 + 10 + 3 + 6 + 4));
        before = walker.digest();
        walker.row(5, 1);
        walker.lay(5, 0, -7);
        c.is(walker.digest() - before != 0 ? 1 : 0, 1);
        walker.row(5, 0);
        c.sentence(45, "of each TEXT likewise.");
        before = walker.digest();
        walker.text(3, 0);
        c.is(walker.digest() - before, 1 + power(1 + 1 + 10 + 3 + 6 + 4));
    }

    private static long power(int exponent) {
        long all = 1;
        for (int i = 0; i < exponent; i++) {
            all *= 31;
        }
        return all;
    }
}

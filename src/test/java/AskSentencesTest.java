/** The sentences of promises 24 to 36, one by one. */
final class AskSentencesTest {
    private static final int NOUGHT = 4;
    private static final int BAD = ClockFeet.BAD, STATE = ClockFeet.STATE, NONE = ClockFeet.NONE;
    private static final int LEAST = Integer.MIN_VALUE, MOST = Integer.MAX_VALUE;

    private AskSentencesTest() {
    }

    static void run(Checks c) {
        order(c);
        orderRefused(c);
        quiet(c);
        cheap(c);
        fewest(c);
        fewestRefused(c);
        feet(c);
        never(c);
        keyed(c);
        fits(c);
        sure(c);
        ask(c);
        noon(c);
        both(c);
        bothRefused(c);
        rent(c);
    }

    private static void order(Checks c) {
        c.sentence(24, "The first ORDER by which it is at a TOOTH just when a GUILD has walked,");
        ClockFeet x = Halls.of("d12 g1 g2 g3");
        c.is(x.order(0, 1, 0), 0);
        c.same(Halls.cells(x, 0), "0 1 2");
        c.is(x.order(0, 3, 0), 1);
        c.same(Halls.cells(x, 0), "1 0 2");
        c.is(x.order(0, 4, 0), 1);
        c.same(Halls.cells(x, 0), "2 0 1");
        c.is(x.order(0, 6, 0), 2);
        c.same(Halls.cells(x, 0), "1 2 0");
        c.is(x.order(2, 3, 0), 0);
        c.same(Halls.cells(x, 0), "2 0 1");
        c.is(x.order(1, 6, 0), 2);
        c.same(Halls.cells(x, 0), "0 2 1");
        Halls.walk(x, 2, 2, 2);
        c.is(x.order(2, 0, 0), 0);
        c.same(Halls.cells(x, 0), "2 0 1");
        c.is(x.order(2, 3, 0), 2);
        c.same(Halls.cells(x, 0), "0 1 2");
        c.sentence(24, "and no RENT falls DUE by any walk of the ORDER,");
        ClockFeet rents = Halls.of("d12 g1 g2 g3 e03");
        c.is(rents.order(2, 6, 0), NONE);
        c.is(rents.order(2, 4, 0), 1);
        c.same(Halls.cells(rents, 0), "0 2 1");
        c.is(rents.order(2, 5, 0), 1);
        c.same(Halls.cells(rents, 0), "1 2 0");
        c.is(rents.order(2, 3, 0), NONE);
        c.is(rents.order(0, 1, 0), 0);
        c.same(Halls.cells(rents, 0), "0 2 1");
        c.is(rents.order(0, 6, 0), 2);
        c.same(Halls.cells(rents, 0), "1 2 0");
        c.is(Halls.of("d12 g1 g2 g3 e06").order(0, 1, 0), NONE);
        ClockFeet still = Halls.of("d12 g3 k1 g5 e03");
        still.walk(0);
        c.is(still.due(), 1);
        c.is(still.order(1, 3, 0), NONE);
        c.is(still.order(1, 6, 0), 1);
        c.same(Halls.cells(still, 0), "0 1 2");
        c.sentence(24, "comes to a ROW (anew): in which place (0 ..) that GUILD comes.");
        ClockFeet y = Halls.of("d60 g1 g2 g3 g4 g5 g6");
        y.row(5, 40);
        y.lay(5, 39, 9);
        c.is(y.order(5, 21, 5), 5);
        c.same(Halls.cells(y, 5), "0 1 2 3 4 5");
        c.is(y.order(5, 6, 0), 0);
        c.same(Halls.cells(y, 0), "5 0 1 2 3 4");
        c.is(y.count(8), 2);
        c.is(y.order(3, 7, 0), 2);
        c.same(Halls.cells(y, 0), "0 1 3 2 4 5");
        c.is(y.count(4), 0);
        c.is(y.count(2), 0);
        ClockFeet alone = Halls.of("d12 g5");
        alone.row(2, 9);
        c.is(alone.order(0, 5, 2), 0);
        c.same(Halls.cells(alone, 2), "0");
    }

    private static void orderRefused(Checks c) {
        c.sentence(24, "NONE: none.");
        Twins.changesNothing(c, Halls::busy, NONE, y -> y.order(3, 5, 0));
        Twins.changesNothing(c, Halls::busy, NONE, y -> y.order(3, 5, 4));
        Twins.changesNothing(c, Halls::busy, NONE, y -> y.order(3, 10, 1));
        c.sentence(24, "BAD: also a TOOTH that there is not.");
        Twins.changesNothing(c, Halls::busy, BAD, y -> y.order(0, 12, 0));
        Twins.changesNothing(c, Halls::busy, BAD, y -> y.order(0, -1, 0));
        Twins.changesNothing(c, Halls::busy, BAD, y -> y.order(0, MOST, 0));
        Twins.changesNothing(c, Halls::busy, BAD, y -> y.order(6, 1, 0));
        Twins.changesNothing(c, Halls::busy, BAD, y -> y.order(-1, 1, 0));
        Twins.changesNothing(c, Halls::busy, BAD, y -> y.order(0, 1, 6));
        Twins.changesNothing(c, Halls::busy, BAD, y -> y.order(0, 1, -1));
        Twins.changesNothing(c, Halls::empty, BAD, y -> y.order(0, 0, 0));
        ClockFeet last = Halls.of("d13 h6");
        c.is(last.order(0, 12, 0), 0);
        c.is(last.order(0, 13, 0), BAD);
        c.is(last.order(1, 12, 0), BAD);
    }

    private static void quiet(Checks c) {
        c.sentence(25, "How many ORDERS there are by which no RENT falls DUE, told by upper() (lower() is 1);");
        ClockFeet x = Halls.of("d12 g1 g2 g4 e03");
        Halls.walk(x, 0, 1, 1);
        c.ratio(x, x.pace(), 5, 3);
        x.undo(0);
        c.ratio(x, x.quiet(), 4, 1);
        x.walk(0);
        c.ratio(x, x.quiet(), 4, 1);
        x.walk(0);
        c.ratio(x, x.quiet(), 4, 1);
        x.floor(1);
        c.ratio(x, x.quiet(), 3, 1);
        x.floor(2);
        c.ratio(x, x.quiet(), 6, 1);
        ClockFeet all = Halls.of("d60 g1 h1 c1 k1 r1 t1");
        c.ratio(all, all.quiet(), 720, 1);
        ClockFeet none = Halls.of("d12 g1 g2 e03");
        c.ratio(none, none.quiet(), 0, 1);
        ClockFeet one = Halls.of("d12 g1");
        c.ratio(one, one.quiet(), 1, 1);
        Twins.tellsBoth(c, Halls::busy, y -> y.quiet());
        c.sentence(25, "the GUILD (bits) that can be the last one in these by asked(): 1.");
        ClockFeet last = Halls.of("d12 g1 g2 g4 e03");
        c.tells(last, last.quiet(), 3);
        last.undo(0);
        c.tells(all, all.quiet(), 63);
        c.tells(none, none.quiet(), 0);
        c.tells(one, one.quiet(), 1);
        ClockFeet first = Halls.of("d12 g1 g2 g4 e06");
        c.tells(first, first.quiet(), 6);
        c.ratio(first, first.quiet(), 4, 1);
        ClockFeet middle = Halls.of("d12 g1 g2 g4 e02 e04");
        c.tells(middle, middle.quiet(), 6);
        c.ratio(middle, middle.quiet(), 2, 1);
        c.sentence(25, "STATE: no GUILDS.");
        Twins.changesNothing(c, Halls::empty, STATE, y -> y.quiet());
    }

    private static void cheap(Checks c) {
        c.sentence(26, "The fewest RENTS that fall DUE by an ORDER;");
        ClockFeet x = Halls.of("d12 g1 g2 e01 e02 e03");
        c.is(x.cheap(), 2);
        x.walk(1);
        c.is(x.cheap(), 0);
        ClockFeet all = Halls.of("d12 k1 k2 k3 k4 k5 g1 e01");
        c.is(all.cheap(), 1);
        all.walk(5);
        c.is(all.cheap(), 0);
        all.undo(0);
        all.walk(5);
        all.floor(2);
        c.is(all.cheap(), 6);
        ClockFeet four = Halls.of("d12 g1 g1 g1 g1 e01 e02 e03 e04");
        c.is(four.cheap(), 4);
        c.is(Halls.of("d12 g1").cheap(), 0);
        Twins.asks(c, Halls::busy, y -> y.cheap());
        c.sentence(26, "the first such one by asked() (a number: 6 times that ahead, and the GUILD, one by one, 0 ahead).");
        ClockFeet one = Halls.of("d12 g1");
        c.told(one, one.cheap(), 0, 0);
        x.undo(0);
        c.told(x, x.cheap(), 2, 1);
        x.floor(1);
        c.told(x, x.cheap(), 1, 1);
        c.told(four, four.cheap(), 4, (1 * 6 + 2) * 6 + 3);
        c.told(all, all.cheap(), 6, (((1 * 6 + 2) * 6 + 3) * 6 + 4) * 6 + 5);
        all.undo(0);
        c.told(all, all.cheap(), 1, (((1 * 6 + 2) * 6 + 3) * 6 + 4) * 6 + 5);
        ClockFeet turned = Halls.of("d12 g3 g2 g1 e03 e05");
        c.told(turned, turned.cheap(), 0, (2 * 6 + 0) * 6 + 1);
        c.sentence(26, "STATE: no GUILDS.");
        Twins.changesNothing(c, Halls::empty, STATE, y -> y.cheap());
    }

    private static void fewest(Checks c) {
        c.sentence(27, "The fewest walks (of any GUILDS, as often as wanted, 0 .. 59) by which it is at a TOOTH;");
        ClockFeet x = Halls.of("d60 g1 k1 e01");
        c.is(x.fewest(0), 0);
        c.is(x.fewest(1), 1);
        c.is(x.fewest(59), 59);
        x.walk(0);
        c.is(x.fewest(0), 59);
        c.is(x.fewest(1), 0);
        ClockFeet y = Halls.of("d12 g5 g4");
        c.is(y.fewest(4), 1);
        c.is(y.fewest(8), 2);
        c.is(y.fewest(9), 2);
        c.is(y.fewest(10), 2);
        c.is(y.fewest(1), 3);
        c.is(y.fewest(11), 5);
        c.is(y.fewest(7), 4);
        y.floor(1);
        c.is(y.fewest(4), 2);
        c.is(y.fewest(2), 1);
        c.is(y.fewest(1), NONE);
        Twins.asks(c, Halls::busy, z -> z.fewest(0));
        c.sentence(27, "the GUILD that walks first in the first such row (by numbers) by asked() (NONE: none has to).");
        c.told(x, x.fewest(1), 0, NONE);
        c.told(x, x.fewest(0), 59, 0);
        y.undo(0);
        c.told(y, y.fewest(4), 1, 1);
        c.told(y, y.fewest(8), 2, 1);
        c.told(y, y.fewest(9), 2, 0);
        c.told(y, y.fewest(5), 1, 0);
        c.told(y, y.fewest(0), 0, NONE);
        c.told(y, y.fewest(11), 5, 0);
        ClockFeet six = Halls.of("d60 k1 k2 k3 k4 g7 g7");
        c.told(six, six.fewest(7), 1, 4);
        ClockFeet late = Halls.of("d60 k1 k2 k3 k4 k5 g7");
        c.told(late, late.fewest(14), 2, 5);
    }

    private static void fewestRefused(Checks c) {
        c.sentence(27, "NONE: never.");
        Twins.changesNothing(c, () -> even(), NONE, y -> y.fewest(1));
        Twins.changesNothing(c, () -> even(), NONE, y -> y.fewest(11));
        c.is(even().fewest(10), 3);
        c.sentence(27, "BAD: also a TOOTH that there is not.");
        Twins.changesNothing(c, Halls::busy, BAD, y -> y.fewest(12));
        Twins.changesNothing(c, Halls::busy, BAD, y -> y.fewest(-1));
        Twins.changesNothing(c, Halls::busy, BAD, y -> y.fewest(MOST));
        Twins.changesNothing(c, Halls::busy, BAD, y -> y.fewest(LEAST));
        Twins.changesNothing(c, Halls::empty, BAD, y -> y.fewest(0));
        c.is(Halls.busy().fewest(11), 0);
    }

    private static ClockFeet even() {
        ClockFeet x = Halls.of("d12 g4 h1");
        Halls.fill(x, 0, 55);
        x.at(0, 0);
        return x;
    }

    private static void feet(Checks c) {
        c.sentence(28, "The fewest FEET together (of those that walk, each time) by which it is at a TOOTH.");
        ClockFeet x = Halls.of("d12 g5 h2 c9 k1");
        c.is(x.feet(0), 0);
        c.is(x.feet(4), 2);
        c.is(x.feet(5), 5);
        c.is(x.feet(8), 4);
        c.is(x.feet(9), 7);
        c.is(x.feet(10), 10);
        c.is(x.feet(1), 9);
        c.is(x.feet(2), 12);
        x.walk(3);
        c.is(x.feet(4), 2);
        x.walk(1);
        c.is(x.feet(4), 0);
        c.is(x.feet(0), 4);
        x.floor(1);
        c.is(x.feet(6), 2);
        c.is(x.feet(10), 6);
        c.is(x.feet(5), NONE);
        ClockFeet heavier = Halls.of("d60 g9 g1");
        c.is(heavier.feet(59), 59);
        ClockFeet most = Halls.of("d59 c9");
        c.is(most.feet(51), 58 * 9);
        Twins.changesNothing(c, Halls::busy, 4, y -> y.feet(0));
        c.sentence(28, "NONE: never.");
        Twins.changesNothing(c, () -> even(), NONE, y -> y.feet(1));
        Twins.changesNothing(c, () -> even(), NONE, y -> y.feet(11));
        c.is(even().feet(10), 5);
        c.sentence(28, "BAD: also a TOOTH that there is not.");
        Twins.changesNothing(c, Halls::busy, BAD, y -> y.feet(12));
        Twins.changesNothing(c, Halls::busy, BAD, y -> y.feet(-1));
        Twins.changesNothing(c, Halls::busy, BAD, y -> y.feet(MOST));
        Twins.changesNothing(c, Halls::empty, BAD, y -> y.feet(0));
        c.is(Halls.busy().feet(11), 0);
    }

    private static void never(Checks c) {
        c.sentence(29, "How many TEETH can't be had by any walks;");
        ClockFeet x = Halls.of("d12 g3 g6 k1");
        c.is(x.never(), 8);
        x.floor(1);
        c.is(x.never(), 0);
        x.floor(2);
        c.is(x.never(), 11);
        c.is(Halls.of("d60 k1").never(), 59);
        c.is(Halls.of("d60 h6 g8").never(), 45);
        c.is(Halls.of("d60 g7").never(), 0);
        c.is(Halls.of("d12 h6").never(), 11);
        c.is(Halls.of("d12 h9").never(), 10);
        Twins.asks(c, Halls::busy, y -> y.never());
        c.sentence(29, "the first of them by asked() (NONE: none).");
        c.told(x, x.never(), 11, 1);
        x.undo(0);
        c.told(x, x.never(), 8, 1);
        x.floor(1);
        c.told(x, x.never(), 0, NONE);
        x.walk(0);
        x.floor(0);
        c.told(x, x.never(), 8, 0);
        x.floor(2);
        c.told(x, x.never(), 11, 0);
        ClockFeet y = Halls.of("d12 g3 g4");
        y.floor(1);
        Halls.walk(y, 0);
        y.floor(2);
        c.told(y, y.never(), 11, 0);
        c.sentence(29, "STATE: no GUILDS.");
        Twins.changesNothing(c, Halls::empty, STATE, z -> z.never());
    }

    private static void keyed(Checks c) {
        c.sentence(30, "GUILDS (bits) without each of which (kept out, alone) some TOOTH can't be had that can be with it.");
        c.is(Halls.of("d12 g1").keyed(), 1);
        c.is(Halls.of("d12 g1 g1").keyed(), 0);
        c.is(Halls.of("d12 g1 g5").keyed(), 0);
        c.is(Halls.of("d12 g2 g1").keyed(), 2);
        c.is(Halls.of("d12 g3 g4").keyed(), 3);
        c.is(Halls.of("d12 g3 g4 g6 g8").keyed(), 1);
        c.is(Halls.of("d30 g6 k1 k2 k3 k4 g5").keyed(), 33);
        c.is(Halls.of("d12 h6").keyed(), 0);
        c.is(Halls.of("d12 k1").keyed(), 0);
        c.is(Halls.of("d12 g4 g8").keyed(), 0);
        c.is(Halls.of("d13 g4 g8").keyed(), 0);
        ClockFeet x = Halls.of("d12 g2 h2 t9");
        c.is(x.keyed(), 1);
        x.floor(1);
        c.is(x.keyed(), 1);
        x.walk(0);
        c.is(x.keyed(), 1);
        x.floor(2);
        c.is(x.keyed(), 0);
        c.is(x.asked(), 0);
        Twins.changesNothing(c, Halls::busy, 4, y -> y.keyed());
        c.sentence(30, "STATE: no GUILDS.");
        Twins.changesNothing(c, Halls::empty, STATE, y -> y.keyed());
    }

    private static void fits(Checks c) {
        c.sentence(31, "How many sets of GUILDS move the DIAL on by n TEETH (0 .. one less than there are, whole ROUNDS aside), "
            + "told by upper() (lower() is 1);");
        ClockFeet x = Halls.of("d12 g5 g7 h6");
        Halls.walk(x, 0, 1, 2, 0);
        x.walk(0);
        c.ratio(x, x.pace(), 34, 5);
        int[] ways = {4, 0, 0, 0, 0, 2, 0, 2, 0, 0, 0, 0};
        for (int n = 0; n < 12; n++) {
            c.ratio(x, x.fits(n), ways[n], 1);
        }
        x.floor(2);
        c.ratio(x, x.fits(0), 8, 1);
        c.ratio(x, x.fits(11), 0, 1);
        ClockFeet cats = Halls.of("d12 k1 k1 k1 k1 k1 k1");
        c.ratio(cats, cats.fits(0), 64, 1);
        ClockFeet sixty = Halls.of("d60 h9 h9 h9 g5");
        c.ratio(sixty, sixty.fits(59), 1, 1);
        c.ratio(sixty, sixty.fits(18), 3, 1);
        Twins.tellsBoth(c, Halls::busy, y -> y.fits(0));
        c.sentence(31, "the first by asked() (bits; NONE): 1.");
        c.tells(cats, cats.fits(0), 0);
        c.tells(sixty, sixty.fits(59), 15);
        c.tells(sixty, sixty.fits(18), 1);
        c.tells(sixty, sixty.fits(41), 11);
        c.tells(sixty, sixty.fits(58), NONE);
        c.is(sixty.upper() == 0 && sixty.lower() == 1 ? 1 : 0, 1);
        ClockFeet later = Halls.of("d12 k1 k1 k1 k1 k1 g1");
        c.tells(later, later.fits(1), 32);
        c.tells(x, x.fits(11), NONE);
        x.undo(0);
        c.tells(x, x.fits(7), 2);
        c.sentence(31, "BAD: also an n that there is not.");
        Twins.changesNothing(c, Halls::busy, BAD, y -> y.fits(12));
        Twins.changesNothing(c, Halls::busy, BAD, y -> y.fits(-1));
        Twins.changesNothing(c, Halls::busy, BAD, y -> y.fits(MOST));
        Twins.changesNothing(c, Halls::empty, BAD, y -> y.fits(0));
    }

    private static void sure(Checks c) {
        c.sentence(32, "GUILDS (bits) that are in each such set;");
        ClockFeet x = Halls.of("d60 g1 g2 g3 g9 h9 k1");
        c.is(x.sure(0), 0);
        c.is(x.sure(1), 1);
        c.is(x.sure(3), 0);
        c.is(x.sure(5), 6);
        c.is(x.sure(6), 7);
        c.is(x.sure(9), 8);
        c.is(x.sure(33), 31);
        c.sentence(32, "those in none by asked().");
        c.told(x, x.sure(0), 0, 31);
        c.told(x, x.sure(1), 1, 30);
        c.told(x, x.sure(3), 0, 24);
        c.told(x, x.sure(33), 31, 0);
        x.walk(4);
        c.told(x, x.sure(1), 1, 30);
        x.floor(2);
        c.told(x, x.sure(0), 0, 0);
        ClockFeet six = Halls.of("d60 g1 g1 g1 g1 g1 g9");
        c.told(six, six.sure(9), 32, 31);
        c.told(six, six.sure(14), 63, 0);
        Twins.asks(c, Halls::busy, y -> y.sure(0));
        c.sentence(32, "BAD;");
        Twins.changesNothing(c, Halls::busy, BAD, y -> y.sure(12));
        Twins.changesNothing(c, Halls::busy, BAD, y -> y.sure(-1));
        Twins.changesNothing(c, Halls::busy, BAD, y -> y.sure(LEAST));
        Twins.changesNothing(c, Halls::empty, BAD, y -> y.sure(0));
        c.sentence(32, "NOUGHT: there is none.");
        Twins.finds(c, () -> even(), NOUGHT, y -> y.sure(1));
        Twins.finds(c, () -> even(), NOUGHT, y -> y.sure(11));
        c.is(even().sure(6), 3);
        c.sentence(32, "(NOUGHT behind BAD.)");
        Twins.changesNothing(c, () -> even(), BAD, y -> y.sure(12));
        Twins.changesNothing(c, () -> even(), BAD, y -> y.sure(-1));
    }

    private static void ask(Checks c) {
        c.sentence(33, "The GUILD (the first) of which it is best to know whether it walked: the greater number of such sets, "
            + "with it or without it, is least;");
        ClockFeet x = Halls.of("d60 g1 g2 g3 k1");
        c.is(x.ask(0), 3);
        c.is(x.ask(3), 0);
        c.is(x.ask(6), 3);
        ClockFeet y = Halls.of("d60 g5 g1 g1 g1 g1");
        c.is(y.ask(2), 1);
        c.is(y.ask(3), 1);
        c.is(y.ask(1), 1);
        c.is(y.ask(5), 0);
        ClockFeet last = Halls.of("d12 g1 g1 h6 h6 h6 h6");
        c.is(last.ask(2), 2);
        ClockFeet sixth = Halls.of("d12 g1 g2 g3 g4 g1 k1");
        c.is(sixth.ask(11), 5);
        c.sentence(33, "that number by asked().");
        c.told(x, x.ask(0), 3, 1);
        c.told(x, x.ask(3), 0, 2);
        c.told(x, x.ask(6), 3, 1);
        c.told(y, y.ask(2), 1, 3);
        c.told(y, y.ask(3), 1, 3);
        c.told(y, y.ask(1), 1, 3);
        c.told(y, y.ask(5), 0, 1);
        c.told(last, last.ask(2), 2, 8);
        x.floor(2);
        c.told(x, x.ask(0), 0, 8);
        ClockFeet cats = Halls.of("d12 k1 k1 k1 k1 k1 k1");
        c.told(cats, cats.ask(0), 0, 32);
        Twins.asks(c, Halls::busy, z -> z.ask(0));
        c.sentence(33, "BAD;");
        Twins.changesNothing(c, Halls::busy, BAD, z -> z.ask(12));
        Twins.changesNothing(c, Halls::busy, BAD, z -> z.ask(-1));
        Twins.changesNothing(c, Halls::busy, BAD, z -> z.ask(LEAST));
        Twins.changesNothing(c, Halls::empty, BAD, z -> z.ask(0));
        c.sentence(33, "NOUGHT: there is none.");
        Twins.finds(c, () -> even(), NOUGHT, z -> z.ask(1));
        Twins.finds(c, () -> even(), NOUGHT, z -> z.ask(11));
        c.is(even().ask(6), 0);
        c.sentence(33, "(NOUGHT behind BAD.)");
        Twins.changesNothing(c, () -> even(), BAD, z -> z.ask(12));
        Twins.changesNothing(c, () -> even(), BAD, z -> z.ask(-1));
    }

    private static void noon(Checks c) {
        c.sentence(34, "Behind how many walks (1 ..) of one GUILD alone it is NOON next.");
        ClockFeet x = Halls.of("d60 g1 h6 g7 k1 h9 c1");
        c.is(x.noon(0), 60);
        c.is(x.noon(1), 5);
        c.is(x.noon(2), 60);
        c.is(x.noon(3), 1);
        c.is(x.noon(4), 10);
        c.is(x.noon(5), 1);
        x.walk(0);
        c.is(x.noon(0), 59);
        c.is(x.noon(2), 17);
        Halls.walk(x, 1, 1, 1);
        c.is(x.noon(0), 23);
        x.floor(1);
        c.is(x.noon(1), NONE);
        c.is(x.noon(2), NONE);
        ClockFeet twelve = Halls.of("d12 h6 g1");
        c.is(twelve.noon(0), 1);
        Halls.walk(twelve, 1, 1, 1, 1, 1, 1, 1, 1, 1, 1, 1);
        c.is(twelve.noon(1), 1);
        Twins.changesNothing(c, Halls::busy, 1, y -> y.noon(2));
        c.is(twelve.asked(), 0);
        c.sentence(34, "NONE: never.");
        Twins.changesNothing(c, Halls::busy, NONE, y -> y.noon(3));
        Twins.changesNothing(c, Halls::busy, NONE, y -> y.noon(0));
        c.is(twelve.noon(0), NONE);
        twelve.floor(2);
        c.is(twelve.noon(1), NONE);
        c.sentence(34, "BAD.");
        Twins.changesNothing(c, Halls::busy, BAD, y -> y.noon(6));
        Twins.changesNothing(c, Halls::busy, BAD, y -> y.noon(-1));
        Twins.changesNothing(c, Halls::busy, BAD, y -> y.noon(MOST));
        Twins.changesNothing(c, Halls::empty, BAD, y -> y.noon(0));
    }

    private static void both(Checks c) {
        c.sentence(35, "Behind how many walks (1 .. 3600) of one GUILD alone this clock and another one, of n TEETH (12 .. 60), "
            + "that is at a TOOTH now, and goes on by as many, are both at NOON;");
        ClockFeet x = Halls.of("d60 g1 k1 h9");
        c.is(x.both(0, 59, 0), 3540);
        c.is(x.both(0, 60, 0), 60);
        c.is(x.both(0, 12, 0), 60);
        c.is(x.both(0, 12, 11), NONE);
        c.is(x.both(0, 59, 58), 60);
        c.is(x.both(0, 59, 57), 120);
        c.is(x.both(0, 59, 1), 3480);
        c.is(x.both(1, 12, 0), 1);
        c.is(x.both(2, 12, 0), 10);
        c.is(x.both(2, 36, 0), 10);
        c.is(x.both(2, 13, 3), 80);
        x.walk(0);
        c.is(x.both(0, 60, 1), 59);
        c.is(x.both(0, 60, 0), NONE);
        c.is(x.both(0, 59, 0), 59);
        Twins.asks(c, Halls::busy, y -> y.both(1, 12, 0));
        c.sentence(35, "ROUNDS that this one made in these walks by asked().");
        c.told(x, x.both(0, 59, 0), 59, 1);
        x.undo(0);
        c.told(x, x.both(0, 59, 0), 3540, 59);
        c.told(x, x.both(0, 60, 0), 60, 1);
        c.told(x, x.both(1, 12, 0), 1, 0);
        c.told(x, x.both(2, 13, 3), 80, 24);
        Halls.walk(x, 2, 2, 2, 2);
        c.is(x.count(3), 1);
        c.told(x, x.both(2, 12, 0), 6, 2);
        c.sentence(35, "NONE: never.");
        Twins.changesNothing(c, Halls::busy, NONE, y -> y.both(3, 12, 0));
        Twins.changesNothing(c, Halls::busy, NONE, y -> y.both(0, 12, 0));
        Twins.changesNothing(c, () -> even(), NONE, y -> y.both(0, 12, 2));
        c.is(even().both(0, 12, 4), NONE);
        c.is(even().both(0, 12, 0), 3);
    }

    private static void bothRefused(Checks c) {
        c.sentence(35, "BAD: also a TOOTH beyond the other one's.");
        Twins.changesNothing(c, Halls::busy, BAD, y -> y.both(0, 12, 12));
        Twins.changesNothing(c, Halls::busy, BAD, y -> y.both(0, 60, 60));
        Twins.changesNothing(c, Halls::busy, BAD, y -> y.both(0, 12, -1));
        Twins.changesNothing(c, Halls::busy, BAD, y -> y.both(0, 12, MOST));
        Twins.changesNothing(c, Halls::busy, BAD, y -> y.both(0, 11, 0));
        Twins.changesNothing(c, Halls::busy, BAD, y -> y.both(0, 61, 0));
        Twins.changesNothing(c, Halls::busy, BAD, y -> y.both(0, LEAST, 0));
        Twins.changesNothing(c, Halls::busy, BAD, y -> y.both(0, MOST, 0));
        Twins.changesNothing(c, Halls::busy, BAD, y -> y.both(6, 12, 0));
        Twins.changesNothing(c, Halls::busy, BAD, y -> y.both(-1, 12, 0));
        Twins.changesNothing(c, Halls::empty, BAD, y -> y.both(0, 12, 0));
        ClockFeet x = Halls.of("d12 g1");
        c.is(x.both(0, 13, 12), 144);
        c.is(x.both(0, 60, 48), 12);
        c.is(x.both(0, 60, 59), NONE);
        c.is(x.both(0, 12, 0), 12);
    }

    private static void rent(Checks c) {
        c.sentence(36, "Behind how many walks (1 ..) of one GUILD alone a RENT falls DUE next;");
        ClockFeet x = Halls.of("d12 g5 k1 h9 e03 e10");
        c.is(x.rent(0), 2);
        c.is(x.rent(1), NONE);
        c.is(x.rent(2), NONE);
        Halls.walk(x, 0, 0);
        c.is(x.rent(0), 1);
        c.is(x.rent(1), 1);
        c.is(x.rent(2), 2);
        x.walk(0);
        c.is(x.rent(0), 11);
        x.floor(2);
        c.is(x.rent(0), 1);
        c.is(Halls.of("d60 g1 e59").rent(0), 59);
        c.is(Halls.of("d60 g1 e01").rent(0), 1);
        c.is(Halls.of("d59 g9 e50").rent(0), 58);
        ClockFeet back = Halls.of("d60 g1 e01");
        back.walk(0);
        c.is(back.rent(0), 60);
        Twins.asks(c, Halls::busy, y -> y.rent(4));
        c.sentence(36, "how many TEETH it went by asked().");
        c.told(back, back.rent(0), 60, 60);
        c.told(x, x.rent(0), 1, 0);
        x.undo(0);
        c.told(x, x.rent(0), 2, 10);
        Halls.walk(x, 0, 0);
        c.told(x, x.rent(2), 2, 36);
        c.told(x, x.rent(1), 1, 0);
        c.sentence(36, "NONE: never.");
        Twins.changesNothing(c, Halls::busy, NONE, y -> y.rent(3));
        Twins.changesNothing(c, () -> even(), NONE, y -> y.rent(0));
        Twins.changesNothing(c, () -> Halls.of("d12 g2 e05"), NONE, y -> y.rent(0));
        c.sentence(36, "BAD.");
        Twins.changesNothing(c, Halls::busy, BAD, y -> y.rent(6));
        Twins.changesNothing(c, Halls::busy, BAD, y -> y.rent(-1));
        Twins.changesNothing(c, Halls::busy, BAD, y -> y.rent(MOST));
        Twins.changesNothing(c, Halls::empty, BAD, y -> y.rent(0));
    }
}

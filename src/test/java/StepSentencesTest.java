/** The sentences of promises 15 to 23, one by one. */
final class StepSentencesTest {
    private static final int NOTHING = 1, UNLIKE = 3, NOUGHT = 4;
    private static final int BAD = ClockFeet.BAD, FULL = ClockFeet.FULL, STATE = ClockFeet.STATE;
    private static final int LEAST = Integer.MIN_VALUE, MOST = Integer.MAX_VALUE;

    private StepSentencesTest() {
    }

    static void run(Checks c) {
        walk(c);
        floor(c);
        undo(c);
        keep(c);
        on(c);
        hour(c);
        due(c);
        after(c);
        afterRefused(c);
        pace(c);
    }

    private static void walk(Checks c) {
        c.sentence(15, "A GUILD walks: the TOOTH then.");
        ClockFeet x = Halls.of("d12 g5 h9 k1");
        c.is(x.walk(0), 5);
        c.is(x.walk(2), 5);
        c.is(x.walk(1), 11);
        c.is(x.walk(0), 4);
        c.is(x.walk(0), 9);
        c.is(x.count(4), 5);
        c.is(Halls.detail(x, 0, 4), 3);
        ClockFeet sixth = Halls.of("d60 g1 g1 g1 g1 g1 g9");
        c.is(sixth.walk(5), 9);
        c.sentence(15, "BAD;");
        Twins.changesNothing(c, Halls::busy, BAD, y -> y.walk(-1));
        Twins.changesNothing(c, Halls::busy, BAD, y -> y.walk(6));
        Twins.changesNothing(c, Halls::busy, BAD, y -> y.walk(MOST));
        Twins.changesNothing(c, Halls::full, BAD, y -> y.walk(6));
        Twins.changesNothing(c, Halls::empty, BAD, y -> y.walk(0));
        Twins.changesNothing(c, () -> Halls.of("d12 g1"), BAD, y -> y.walk(1));
        c.sentence(15, "FULL: 60 STEPS.");
        ClockFeet one = Halls.of("d13 g1");
        for (int i = 1; i <= 60; i++) {
            c.is(one.walk(0), i % 13);
        }
        c.is(one.walk(0), FULL);
        c.is(one.count(4), 60);
        c.is(one.count(2), 60 % 13);
        Twins.changesNothing(c, Halls::full, FULL, y -> y.walk(0));
        Twins.changesNothing(c, Halls::full, FULL, y -> y.walk(3));
        one.undo(59);
        c.is(one.walk(0), 60 % 13);
    }

    private static void floor(Checks c) {
        c.sentence(16, "The FLOOR is another one (0 .. 2): what it was.");
        ClockFeet x = Halls.of("d12 g8");
        c.is(x.floor(2), 0);
        c.is(x.count(5), 2);
        c.is(x.floor(0), 2);
        c.is(x.floor(1), 0);
        c.is(x.walk(0), 4);
        c.is(x.floor(2), 1);
        c.is(x.walk(0), 4);
        c.is(x.floor(1), 2);
        c.is(x.floor(0), 1);
        c.is(x.walk(0), 0);
        c.is(x.count(4), 9);
        c.sentence(16, "BAD;");
        Twins.changesNothing(c, Halls::busy, BAD, y -> y.floor(-1));
        Twins.changesNothing(c, Halls::busy, BAD, y -> y.floor(3));
        Twins.changesNothing(c, Halls::full, BAD, y -> y.floor(3));
        Twins.changesNothing(c, Halls::empty, BAD, y -> y.floor(3));
        Twins.changesNothing(c, Halls::empty, BAD, y -> y.floor(LEAST));
        c.sentence(16, "STATE: no GUILDS, or it is so;");
        Twins.changesNothing(c, Halls::empty, STATE, y -> y.floor(0));
        Twins.changesNothing(c, Halls::empty, STATE, y -> y.floor(1));
        Twins.changesNothing(c, Halls::empty, STATE, y -> y.floor(2));
        Twins.changesNothing(c, Halls::busy, STATE, y -> y.floor(1));
        Twins.changesNothing(c, Halls::early, STATE, y -> y.floor(0));
        c.sentence(16, "FULL.");
        Twins.changesNothing(c, Halls::full, FULL, y -> y.floor(1));
        Twins.changesNothing(c, Halls::full, FULL, y -> y.floor(2));
        ClockFeet y = Halls.full();
        y.undo(59);
        c.is(y.floor(1), 0);
        c.is(y.count(4), 60);
        c.is(y.floor(2), FULL);
        c.sentence(16, "(FULL last.)");
        Twins.changesNothing(c, Halls::full, STATE, z -> z.floor(0));
        c.is(y.floor(1), STATE);
    }

    private static void undo(Checks c) {
        c.sentence(17, "STEPS from number n on (n 0 to how many there are: then 0) are undone: how many.");
        ClockFeet x = Halls.busy();
        c.is(x.undo(6), 0);
        c.is(x.count(2), 11);
        c.is(x.undo(5), 1);
        c.is(x.count(2), 9);
        c.is(Halls.detail(x, 0, 4), 1);
        c.is(x.undo(5), 0);
        c.is(x.undo(2), 3);
        c.is(x.count(2), 5);
        c.is(x.count(5), 1);
        c.is(x.due(), 1);
        c.is(x.undo(1), 1);
        c.is(x.count(5), 0);
        c.is(x.undo(0), 1);
        c.is(x.count(2), 0);
        c.is(x.count(4), 0);
        c.is(x.due(), 0);
        c.is(x.undo(0), 0);
        c.is(x.count(10), 2);
        c.is(Halls.full().undo(0), 60);
        c.is(Halls.full().undo(60), 0);
        c.is(new ClockFeet().undo(0), 0);
        ClockFeet round = Halls.of("d12 g7");
        Halls.walk(round, 0, 0, 0, 0);
        c.is(round.count(3), 2);
        c.is(round.undo(1), 3);
        c.is(round.count(3), 0);
        c.is(round.walk(0), 2);
        c.is(round.count(4), 2);
        c.sentence(17, "BAD.");
        Twins.changesNothing(c, Halls::busy, BAD, y -> y.undo(-1));
        Twins.changesNothing(c, Halls::busy, BAD, y -> y.undo(7));
        Twins.changesNothing(c, Halls::full, BAD, y -> y.undo(61));
        Twins.changesNothing(c, Halls::early, BAD, y -> y.undo(1));
        Twins.changesNothing(c, Halls::empty, BAD, y -> y.undo(1));
        Twins.changesNothing(c, Halls::empty, BAD, y -> y.undo(MOST));
        Twins.changesNothing(c, Halls::empty, BAD, y -> y.undo(LEAST));
    }

    private static void keep(Checks c) {
        c.sentence(18, "The HALL (as it is, FEET, STEPS) is kept in a place (0 .. 2): how many STEPS.");
        ClockFeet x = Halls.of("d12 g5 h2");
        c.is(x.keep(0), 0);
        x.shoe(0, 9);
        Halls.walk(x, 0);
        x.floor(1);
        c.is(x.keep(1), 2);
        Halls.walk(x, 0, 1);
        c.is(x.keep(2), 4);
        c.is(x.count(10), 3);
        c.is(x.count(2), 9 + 4 + 2 - 12);
        c.is(x.keep(1), 4);
        c.is(x.count(10), 3);
        c.is(x.on(0), 0);
        c.is(Halls.detail(x, 0, 1), 5);
        c.is(x.on(1), 4);
        c.is(x.count(2), 3);
        ClockFeet full = Halls.full();
        c.is(full.keep(0), 60);
        ClockFeet floored = Halls.of("d12 g5 h4 k1");
        floored.floor(1);
        Halls.walk(floored, 1, 2);
        c.is(floored.keep(0), 3);
        c.is(floored.undo(0), 3);
        Halls.walk(floored, 1, 2, 0, 0, 0);
        c.is(floored.keep(1), 5);
        c.is(floored.on(0), 3);
        c.is(floored.count(5), 1);
        c.is(floored.count(2), 4);
        c.is(floored.on(1), 5);
        c.is(floored.count(2), 11);
        c.is(floored.undo(1), 4);
        c.is(floored.count(2), 8);
        c.sentence(18, "BAD;");
        Twins.changesNothing(c, Halls::busy, BAD, y -> y.keep(-1));
        Twins.changesNothing(c, Halls::busy, BAD, y -> y.keep(3));
        Twins.changesNothing(c, Halls::empty, BAD, y -> y.keep(3));
        Twins.changesNothing(c, Halls::empty, BAD, y -> y.keep(LEAST));
        c.sentence(18, "STATE: no GUILDS.");
        Twins.changesNothing(c, Halls::empty, STATE, y -> y.keep(0));
        Twins.changesNothing(c, Halls::empty, STATE, y -> y.keep(2));
    }

    private static void on(Checks c) {
        c.sentence(19, "The HALL is as it was kept: how many STEPS.");
        ClockFeet x = Halls.busy();
        c.is(x.on(0), 2);
        c.is(x.count(2), 8);
        c.is(x.count(5), 0);
        c.is(x.due(), 0);
        c.is(Halls.detail(x, 0, 1), 4);
        c.is(Halls.detail(x, 0, 4), 1);
        c.is(Halls.detail(x, 5, 4), 1);
        c.ratio(x, x.pace(), 4, 1);
        c.is(x.shoe(0, 1), STATE);
        c.is(x.on(2), 5);
        c.is(x.count(2), 9);
        c.is(x.count(5), 1);
        c.is(x.due(), 1);
        c.is(Halls.detail(x, 0, 1), 5);
        c.is(x.walk(0), 11);
        c.is(x.undo(5), 1);
        c.is(x.on(2), 5);
        c.is(x.on(2), 5);
        c.is(x.count(10), 2);
        ClockFeet full = Halls.full();
        full.undo(0);
        c.is(full.on(1), 60);
        c.is(full.walk(0), FULL);
        c.is(full.undo(30), 30);
        c.is(full.on(1), 60);
        c.sentence(19, "BAD;");
        Twins.changesNothing(c, Halls::busy, BAD, y -> y.on(-1));
        Twins.changesNothing(c, Halls::busy, BAD, y -> y.on(3));
        Twins.changesNothing(c, Halls::empty, BAD, y -> y.on(3));
        c.sentence(19, "NOTHING.");
        Twins.finds(c, Halls::busy, NOTHING, y -> y.on(1));
        Twins.finds(c, Halls::empty, NOTHING, y -> y.on(0));
        x.hall(3);
        c.finds(x, x.on(0), NOTHING);
    }

    private static void hour(Checks c) {
        c.sentence(20, "The HOUR (0 .. 11); ROUNDS by asked().");
        ClockFeet x = Halls.of("d60 g4 g1 h9");
        c.told(x, x.hour(), 0, 0);
        x.walk(0);
        c.told(x, x.hour(), 0, 0);
        x.walk(1);
        c.told(x, x.hour(), 1, 0);
        Halls.walk(x, 2, 2, 2);
        c.told(x, x.hour(), 11, 0);
        x.walk(1);
        c.told(x, x.hour(), 0, 1);
        Halls.walk(x, 2, 2, 2, 2);
        c.told(x, x.hour(), 2, 2);
        x.undo(4);
        c.told(x, x.hour(), 8, 0);
        Twins.asks(c, Halls::busy, y -> y.hour());
        c.sentence(20, "STATE: no GUILDS.");
        Twins.changesNothing(c, Halls::empty, STATE, y -> y.hour());
        Twins.changesNothing(c, ClockFeet::new, STATE, y -> y.hour());
    }

    private static void due(Checks c) {
        c.sentence(21, "How many RENTS have fallen DUE (by walks; each time);");
        ClockFeet x = Halls.of("d12 h6 g3 k1 e03");
        c.is(x.due(), 0);
        x.walk(1);
        c.is(x.due(), 1);
        x.walk(0);
        c.is(x.due(), 2);
        x.walk(2);
        c.is(x.due(), 3);
        x.floor(1);
        x.floor(0);
        c.is(x.due(), 3);
        x.walk(1);
        c.is(x.due(), 3);
        Halls.walk(x, 1, 1, 1);
        c.is(x.due(), 4);
        x.undo(2);
        c.is(x.due(), 2);
        c.sentence(21, "whether one is at this TOOTH by asked() (1, 0).");
        c.told(x, x.due(), 2, 1);
        x.walk(1);
        c.told(x, x.due(), 2, 0);
        x.undo(0);
        c.told(x, x.due(), 0, 0);
        ClockFeet fresh = new ClockFeet();
        c.told(fresh, fresh.due(), 0, 0);
        ClockFeet none = Halls.empty();
        c.told(none, none.due(), 0, 0);
        ClockFeet last = Halls.of("d60 h9 g5 e59");
        Halls.walk(last, 0, 0, 0, 1);
        c.told(last, last.due(), 1, 1);
        last.floor(2);
        c.told(last, last.due(), 1, 1);
        Twins.asks(c, Halls::busy, y -> y.due());
    }

    private static void after(Checks c) {
        c.sentence(22, "The TOOTH at which it would be, if the GUILDS of a ROW (40 at most) walked, one behind the other, aside;");
        ClockFeet x = Halls.of("d12 g5 h4 k1 e10 e11");
        Halls.fill(x, 0, 0, 0, 1, 2, 0);
        c.is(x.after(0), 11);
        c.is(x.count(2), 0);
        c.is(x.count(4), 0);
        x.walk(0);
        c.is(x.after(0), 4);
        x.row(1, 0);
        c.is(x.after(1), 5);
        x.row(2, 40);
        c.is(x.after(2), (5 + 40 * 5) % 12);
        x.floor(1);
        c.is(x.after(0), (5 + 2 + 2 + 4 + 2) % 12);
        Twins.asks(c, Halls::busy, y -> y.after(0));
        Twins.asks(c, Halls::full, y -> y.after(0));
        c.is(Halls.full().after(3) >= 0 ? 1 : 0, 1);
        c.sentence(22, "RENTS that fell DUE by asked().");
        x.undo(0);
        c.told(x, x.after(0), 11, 2);
        Halls.fill(x, 3, 0, 0, 2, 2, 1);
        c.told(x, x.after(3), 6, 3);
        c.told(x, x.after(1), 0, 0);
        Halls.walk(x, 0, 0);
        c.is(x.due(), 1);
        c.told(x, x.after(1), 10, 0);
        Halls.fill(x, 4, 2);
        c.told(x, x.after(4), 10, 1);
        c.is(x.due(), 1);
    }

    private static void afterRefused(Checks c) {
        c.sentence(22, "BAD;");
        Twins.changesNothing(c, Halls::busy, BAD, y -> y.after(-1));
        Twins.changesNothing(c, Halls::busy, BAD, y -> y.after(6));
        c.sentence(22, "STATE: no GUILDS;");
        Twins.changesNothing(c, Halls::empty, STATE, y -> y.after(3));
        Twins.changesNothing(c, Halls::empty, STATE, y -> y.after(1));
        c.sentence(22, "NOTHING;");
        Twins.finds(c, Halls::busy, NOTHING, y -> y.after(4));
        Twins.finds(c, Halls::busy, NOTHING, y -> y.after(5));
        c.sentence(22, "UNLIKE: no GUILD.");
        Twins.finds(c, Halls::busy, UNLIKE, y -> y.after(2));
        Twins.finds(c, () -> withRow(0, 6), UNLIKE, y -> y.after(5));
        Twins.finds(c, () -> withRow(-1, 0), UNLIKE, y -> y.after(5));
        Twins.finds(c, () -> withRow(MOST), UNLIKE, y -> y.after(5));
        c.is(withRow(0, 5).after(5) >= 0 ? 1 : 0, 1);
        ClockFeet one = Halls.of("d12 g1");
        Halls.fill(one, 0, 1);
        c.finds(one, one.after(0), UNLIKE);
        c.sentence(22, "(In this order.)");
        Twins.changesNothing(c, Halls::empty, BAD, y -> y.after(6));
        Twins.changesNothing(c, Halls::empty, STATE, y -> y.after(4));
        Twins.changesNothing(c, Halls::empty, STATE, y -> y.after(2));
        Twins.finds(c, () -> withRow(9), NOTHING, y -> y.after(4));
    }

    private static ClockFeet withRow(int... numbers) {
        ClockFeet x = Halls.busy();
        Halls.fill(x, 5, numbers);
        x.at(2, 0);
        return x;
    }

    private static void pace(Checks c) {
        c.sentence(23, "The mean of TEETH of a walk (of those that are, not undone), told by upper(), lower(): 1.");
        ClockFeet x = Halls.of("d12 h9 g4 k1");
        x.walk(0);
        c.ratio(x, x.pace(), 18, 1);
        x.walk(1);
        c.ratio(x, x.pace(), 11, 1);
        x.walk(2);
        c.ratio(x, x.pace(), 22, 3);
        x.floor(1);
        c.ratio(x, x.pace(), 22, 3);
        x.walk(1);
        c.ratio(x, x.pace(), 6, 1);
        x.undo(2);
        c.ratio(x, x.pace(), 11, 1);
        x.undo(1);
        c.ratio(x, x.pace(), 18, 1);
        x.undo(0);
        x.walk(2);
        c.ratio(x, x.pace(), 0, 1);
        ClockFeet full = Halls.of("d12 h9");
        for (int i = 0; i < 60; i++) {
            full.walk(0);
        }
        c.ratio(full, full.pace(), 18, 1);
        c.is(full.asked(), 0);
        Twins.tellsRatio(c, Halls::busy, y -> y.pace());
        c.sentence(23, "NOUGHT: nobody walked.");
        Twins.finds(c, Halls::early, NOUGHT, y -> y.pace());
        Twins.finds(c, Halls::empty, NOUGHT, y -> y.pace());
        ClockFeet floors = Halls.of("d12 h9");
        floors.floor(1);
        c.finds(floors, floors.pace(), NOUGHT);
    }
}

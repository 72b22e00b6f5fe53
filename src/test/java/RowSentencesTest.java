/** The sentences of promises 1 to 14, one by one. */
final class RowSentencesTest {
    private static final int NOTHING = 1, BEYOND = 2, UNLIKE = 3, NOUGHT = 4, SIZE = 5;
    private static final int BAD = ClockFeet.BAD, STATE = ClockFeet.STATE, NONE = ClockFeet.NONE;
    private static final int LEAST = Integer.MIN_VALUE, MOST = Integer.MAX_VALUE;

    private RowSentencesTest() {
    }

    static void run(Checks c) {
        newObject(c);
        row(c);
        lay(c);
        at(c);
        tear(c);
        copy(c);
        copyRefused(c);
        mean(c);
        text(c);
        put(c);
        fault(c);
        hall(c);
        guild(c);
        mark(c);
        markOfRound(c);
        shoe(c);
    }

    private static void newObject(Checks c) {
        c.sentence(1, "No ROWS, TEXTS, GUILDS.");
        ClockFeet x = new ClockFeet();
        c.is(x.count(0), 0);
        c.is(x.count(8), 0);
        c.is(x.count(9), 0);
        c.finds(x, x.at(0, 0), NOTHING);
        c.finds(x, x.at(5, 0), NOTHING);
        c.finds(x, x.put(0, 0, 1), NOTHING);
        c.finds(x, x.put(3, 0, 1), NOTHING);
        c.is(x.guild(0, 0), BAD);
        c.is(x.walk(0), BAD);
    }

    private static void row(Checks c) {
        c.sentence(2, "A ROW is there with n ints 0: n.");
        ClockFeet x = new ClockFeet();
        c.is(x.row(2, 40), 40);
        for (int i = 0; i < 40; i++) {
            c.tells(x, x.at(2, i), 0);
            x.lay(2, i, 100 + i);
        }
        c.is(x.row(2, 3), 3);
        c.same(Halls.cells(x, 2), "0 0 0");
        c.is(x.row(2, 4), 4);
        c.same(Halls.cells(x, 2), "0 0 0 0");
        c.is(x.row(2, 0), 0);
        c.finds(x, x.at(2, 0), BEYOND);
        c.is(x.row(2, 1), 1);
        c.same(Halls.cells(x, 2), "0");
        c.is(x.count(8), 1);
        c.sentence(2, "BAD: also n above 40;");
        c.is(x.row(0, 40), 40);
        Twins.changesNothing(c, Halls::busy, BAD, y -> y.row(0, 41));
        Twins.changesNothing(c, Halls::busy, BAD, y -> y.row(0, MOST));
        Twins.changesNothing(c, Halls::busy, BAD, y -> y.row(4, 41));
        Twins.changesNothing(c, Halls::busy, BAD, y -> y.row(-1, 3));
        Twins.changesNothing(c, Halls::busy, BAD, y -> y.row(6, 3));
        Twins.changesNothing(c, Halls::busy, BAD, y -> y.row(6, -1));
        Twins.changesNothing(c, Halls::busy, BAD, y -> y.row(LEAST, LEAST));
        Twins.changesNothing(c, Halls::busy, BAD, y -> y.row(MOST, 3));
        c.sentence(2, "SIZE: below 0.");
        c.is(x.row(0, 0), 0);
        Twins.finds(c, Halls::busy, SIZE, y -> y.row(0, -1));
        Twins.finds(c, Halls::busy, SIZE, y -> y.row(5, LEAST));
    }

    private static void lay(Checks c) {
        c.sentence(3, "Place i of a ROW is v: what it was, told by asked(): 1.");
        ClockFeet x = new ClockFeet();
        x.row(5, 40);
        c.tells(x, x.lay(5, 0, MOST), 0);
        c.tells(x, x.lay(5, 39, LEAST), 0);
        c.tells(x, x.lay(5, 0, -3), MOST);
        c.tells(x, x.lay(5, 39, 4), LEAST);
        c.tells(x, x.lay(5, 0, -3), -3);
        c.is(Halls.cell(x, 5, 39), 4);
        c.is(Halls.cell(x, 5, 1), 0);
        c.sentence(3, "BAD;");
        Twins.changesNothing(c, Halls::busy, BAD, y -> y.lay(-1, 0, 5));
        Twins.changesNothing(c, Halls::busy, BAD, y -> y.lay(6, 0, 5));
        Twins.changesNothing(c, Halls::busy, BAD, y -> y.lay(6, -1, 5));
        c.sentence(3, "NOTHING;");
        Twins.finds(c, Halls::busy, NOTHING, y -> y.lay(4, 0, 5));
        Twins.finds(c, Halls::busy, NOTHING, y -> y.lay(5, -1, 5));
        c.sentence(3, "BEYOND.");
        Twins.finds(c, Halls::busy, BEYOND, y -> y.lay(0, -1, 5));
        Twins.finds(c, Halls::busy, BEYOND, y -> y.lay(0, 3, 5));
        Twins.finds(c, Halls::busy, BEYOND, y -> y.lay(1, 0, 5));
        Twins.finds(c, Halls::busy, BEYOND, y -> y.lay(3, 40, 5));
        Twins.finds(c, Halls::busy, BEYOND, y -> y.lay(3, MOST, 5));
        Twins.finds(c, Halls::busy, BEYOND, y -> y.lay(3, LEAST, 5));
        x.row(5, 2);
        c.finds(x, x.lay(5, 2, 1), BEYOND);
        c.is(x.lay(5, 1, 1), 1);
    }

    private static void at(Checks c) {
        c.sentence(4, "Place i of a ROW, told by asked(): 1.");
        ClockFeet x = new ClockFeet();
        Halls.fill(x, 0, LEAST, 0, MOST);
        c.tells(x, x.at(0, 0), LEAST);
        c.tells(x, x.at(0, 1), 0);
        c.tells(x, x.at(0, 2), MOST);
        c.tells(x, x.at(0, 2), MOST);
        x.row(5, 40);
        x.lay(5, 39, 6);
        c.tells(x, x.at(5, 39), 6);
        c.tells(x, x.at(5, 0), 0);
        Twins.asks(c, Halls::busy, y -> y.at(0, 1));
        c.sentence(4, "BAD;");
        Twins.changesNothing(c, Halls::busy, BAD, y -> y.at(-1, 0));
        Twins.changesNothing(c, Halls::busy, BAD, y -> y.at(6, 0));
        Twins.changesNothing(c, Halls::busy, BAD, y -> y.at(6, -1));
        c.sentence(4, "NOTHING;");
        Twins.finds(c, Halls::busy, NOTHING, y -> y.at(4, 0));
        Twins.finds(c, Halls::busy, NOTHING, y -> y.at(5, -1));
        c.sentence(4, "BEYOND.");
        Twins.finds(c, Halls::busy, BEYOND, y -> y.at(0, -1));
        Twins.finds(c, Halls::busy, BEYOND, y -> y.at(0, 3));
        Twins.finds(c, Halls::busy, BEYOND, y -> y.at(1, 0));
        Twins.finds(c, Halls::busy, BEYOND, y -> y.at(3, 40));
        Twins.finds(c, Halls::busy, BEYOND, y -> y.at(3, MOST));
        Twins.finds(c, Halls::busy, BEYOND, y -> y.at(3, LEAST));
    }

    private static void tear(Checks c) {
        c.sentence(5, "A ROW is missing: 1.");
        ClockFeet x = new ClockFeet();
        Halls.fill(x, 0, 4, 5);
        x.row(5, 0);
        c.is(x.tear(0), 1);
        c.finds(x, x.at(0, 0), NOTHING);
        c.is(x.count(8), 1);
        c.is(x.tear(5), 1);
        c.is(x.count(8), 0);
        x.row(0, 2);
        c.same(Halls.cells(x, 0), "0 0");
        c.sentence(5, "BAD;");
        Twins.changesNothing(c, Halls::busy, BAD, y -> y.tear(-1));
        Twins.changesNothing(c, Halls::busy, BAD, y -> y.tear(6));
        c.sentence(5, "NOTHING.");
        Twins.finds(c, Halls::busy, NOTHING, y -> y.tear(4));
        Twins.finds(c, Halls::busy, NOTHING, y -> y.tear(5));
        x.tear(0);
        c.finds(x, x.tear(0), NOTHING);
    }

    private static ClockFeet two() {
        ClockFeet x = new ClockFeet();
        Halls.fill(x, 0, 1, 2, 3, 4, 5);
        Halls.fill(x, 1, 6, 7, 8);
        x.row(2, 0);
        return x;
    }

    private static void copy(Checks c) {
        c.sentence(6, "n places of a ROW, from one on, come to those of another one");
        ClockFeet x = two();
        c.is(x.copy(0, 0, 1, 0, 3), 1);
        c.same(Halls.cells(x, 1), "1 2 3");
        c.same(Halls.cells(x, 0), "1 2 3 4 5");
        x = two();
        c.is(x.copy(0, 2, 1, 0, 3), 1);
        c.same(Halls.cells(x, 1), "3 4 5");
        x = two();
        c.is(x.copy(1, 1, 0, 3, 2), 1);
        c.same(Halls.cells(x, 0), "1 2 3 7 8");
        c.same(Halls.cells(x, 1), "6 7 8");
        x = two();
        c.is(x.copy(1, 2, 0, 0, 1), 1);
        c.same(Halls.cells(x, 0), "8 2 3 4 5");
        c.is(x.copy(1, 0, 0, 0, 0), 1);
        c.same(Halls.cells(x, 0), "8 2 3 4 5");
        x.row(5, 40);
        x.row(4, 40);
        x.lay(5, 39, 9);
        c.is(x.copy(5, 0, 4, 0, 40), 1);
        c.is(Halls.cell(x, 4, 39), 9);
        c.sentence(6, "(perhaps itself) from one on, as if taken ahead: 1.");
        x = two();
        c.is(x.copy(0, 0, 0, 1, 4), 1);
        c.same(Halls.cells(x, 0), "1 1 2 3 4");
        x = two();
        c.is(x.copy(0, 1, 0, 0, 4), 1);
        c.same(Halls.cells(x, 0), "2 3 4 5 5");
        x = two();
        c.is(x.copy(0, 0, 0, 2, 3), 1);
        c.same(Halls.cells(x, 0), "1 2 1 2 3");
        x = two();
        c.is(x.copy(0, 0, 0, 0, 5), 1);
        c.same(Halls.cells(x, 0), "1 2 3 4 5");
    }

    private static void copyRefused(Checks c) {
        c.sentence(6, "BAD;");
        Twins.changesNothing(c, Halls::busy, BAD, y -> y.copy(-1, 0, 0, 0, 1));
        Twins.changesNothing(c, Halls::busy, BAD, y -> y.copy(6, 0, 0, 0, 1));
        Twins.changesNothing(c, Halls::busy, BAD, y -> y.copy(0, 0, -1, 0, 1));
        Twins.changesNothing(c, Halls::busy, BAD, y -> y.copy(0, 0, 6, 0, 1));
        c.sentence(6, "SIZE: n below 0;");
        Twins.finds(c, Halls::busy, SIZE, y -> y.copy(0, 0, 2, 0, -1));
        Twins.finds(c, Halls::busy, SIZE, y -> y.copy(0, 0, 2, 0, LEAST));
        c.is(two().copy(0, 0, 1, 0, 0), 1);
        c.sentence(6, "NOTHING: either;");
        Twins.finds(c, Halls::busy, NOTHING, y -> y.copy(4, 0, 0, 0, 1));
        Twins.finds(c, Halls::busy, NOTHING, y -> y.copy(0, 0, 4, 0, 1));
        Twins.finds(c, Halls::busy, NOTHING, y -> y.copy(4, 0, 5, 0, 0));
        c.sentence(6, "BEYOND: not so many there");
        Twins.finds(c, Halls::busy, BEYOND, y -> y.copy(0, 0, 3, 0, 4));
        Twins.finds(c, Halls::busy, BEYOND, y -> y.copy(0, 1, 3, 0, 3));
        Twins.finds(c, Halls::busy, BEYOND, y -> y.copy(3, 0, 0, 0, 4));
        Twins.finds(c, Halls::busy, BEYOND, y -> y.copy(3, 0, 0, 2, 2));
        Twins.finds(c, Halls::busy, BEYOND, y -> y.copy(0, -1, 3, 0, 1));
        Twins.finds(c, Halls::busy, BEYOND, y -> y.copy(3, 0, 0, -1, 1));
        Twins.finds(c, Halls::busy, BEYOND, y -> y.copy(0, 0, 3, 0, MOST));
        Twins.finds(c, Halls::busy, BEYOND, y -> y.copy(0, MOST, 3, 0, MOST));
        Twins.finds(c, Halls::busy, BEYOND, y -> y.copy(0, 3, 3, 0, 1));
        Twins.finds(c, Halls::busy, BEYOND, y -> y.copy(0, 0, 1, 0, 1));
        c.is(Halls.busy().copy(0, 0, 3, 37, 3), 1);
        c.sentence(6, "(also with n 0, if i, j is below 0, or above its size).");
        Twins.finds(c, Halls::busy, BEYOND, y -> y.copy(0, -1, 3, 0, 0));
        Twins.finds(c, Halls::busy, BEYOND, y -> y.copy(0, 4, 3, 0, 0));
        Twins.finds(c, Halls::busy, BEYOND, y -> y.copy(3, 0, 0, -1, 0));
        Twins.finds(c, Halls::busy, BEYOND, y -> y.copy(3, 0, 0, 4, 0));
        Twins.finds(c, Halls::busy, BEYOND, y -> y.copy(3, 41, 0, 0, 0));
        Twins.finds(c, Halls::busy, BEYOND, y -> y.copy(0, LEAST, 0, LEAST, 0));
        Twins.finds(c, Halls::busy, BEYOND, y -> y.copy(1, 1, 0, 0, 0));
        c.is(Halls.busy().copy(0, 3, 3, 40, 0), 1);
        c.is(Halls.busy().copy(1, 0, 1, 0, 0), 1);
        c.sentence(6, "(In this order.)");
        Twins.changesNothing(c, Halls::busy, BAD, y -> y.copy(6, -1, 4, -1, -1));
        Twins.changesNothing(c, Halls::busy, BAD, y -> y.copy(4, -1, 6, -1, -1));
        Twins.finds(c, Halls::busy, SIZE, y -> y.copy(4, -1, 0, -1, -1));
        Twins.finds(c, Halls::busy, SIZE, y -> y.copy(0, -1, 4, -1, -1));
        Twins.finds(c, Halls::busy, SIZE, y -> y.copy(0, -1, 0, 99, -1));
        Twins.finds(c, Halls::busy, NOTHING, y -> y.copy(4, -1, 0, 99, 1));
        Twins.finds(c, Halls::busy, NOTHING, y -> y.copy(0, 99, 4, -1, 1));
    }

    private static void mean(Checks c) {
        c.sentence(7, "The mean of a ROW's ints, cut, told by asked(): 1.");
        ClockFeet x = new ClockFeet();
        Halls.fill(x, 0, 9);
        c.tells(x, x.mean(0), 9);
        Halls.fill(x, 0, 1, 2);
        c.tells(x, x.mean(0), 1);
        Halls.fill(x, 0, 1, 1, 3);
        c.tells(x, x.mean(0), 1);
        Halls.fill(x, 0, -1, -2);
        c.tells(x, x.mean(0), -1);
        Halls.fill(x, 0, 1, -2);
        c.tells(x, x.mean(0), 0);
        int[] many = new int[40];
        java.util.Arrays.fill(many, MOST);
        Halls.fill(x, 5, many);
        c.tells(x, x.mean(5), MOST);
        java.util.Arrays.fill(many, LEAST);
        Halls.fill(x, 5, many);
        c.tells(x, x.mean(5), LEAST);
        Halls.fill(x, 5, LEAST, MOST);
        c.tells(x, x.mean(5), 0);
        x.row(5, 40);
        x.lay(5, 39, 80);
        c.tells(x, x.mean(5), 2);
        Twins.asks(c, Halls::busy, y -> y.mean(0));
        c.sentence(7, "BAD;");
        Twins.changesNothing(c, Halls::busy, BAD, y -> y.mean(-1));
        Twins.changesNothing(c, Halls::busy, BAD, y -> y.mean(6));
        c.sentence(7, "NOTHING;");
        Twins.finds(c, Halls::busy, NOTHING, y -> y.mean(4));
        Twins.finds(c, Halls::busy, NOTHING, y -> y.mean(5));
        c.sentence(7, "NOUGHT.");
        Twins.finds(c, Halls::busy, NOUGHT, y -> y.mean(1));
    }

    private static void text(Checks c) {
        c.sentence(8, "A TEXT is there with n blanks: n.");
        ClockFeet x = new ClockFeet();
        c.is(x.text(3, 60), 60);
        for (int i = 0; i < 60; i++) {
            c.is(x.put(3, i, 65), 1032);
        }
        c.is(x.text(3, 2), 2);
        c.is(x.put(3, 1, 65), 1032);
        c.finds(x, x.put(3, 2, 65), BEYOND);
        c.is(x.text(3, 3), 3);
        c.is(x.put(3, 1, 65), 1032);
        c.is(x.put(3, 2, 65), 1032);
        c.is(x.text(3, 0), 0);
        c.finds(x, x.put(3, 0, 65), BEYOND);
        c.is(x.count(9), 1);
        c.sentence(8, "BAD: also n above 60;");
        c.is(x.text(0, 60), 60);
        Twins.changesNothing(c, Halls::busy, BAD, y -> y.text(0, 61));
        Twins.changesNothing(c, Halls::busy, BAD, y -> y.text(0, MOST));
        Twins.changesNothing(c, Halls::busy, BAD, y -> y.text(-1, 3));
        Twins.changesNothing(c, Halls::busy, BAD, y -> y.text(4, 3));
        Twins.changesNothing(c, Halls::busy, BAD, y -> y.text(4, -1));
        Twins.changesNothing(c, ClockFeet::new, BAD, y -> y.text(3, 61));
        c.sentence(8, "SIZE: below 0.");
        c.is(x.text(0, 0), 0);
        Twins.finds(c, Halls::busy, SIZE, y -> y.text(0, -1));
        Twins.finds(c, Halls::busy, SIZE, y -> y.text(3, LEAST));
        Twins.finds(c, ClockFeet::new, SIZE, y -> y.text(3, -1));
    }

    private static void put(Checks c) {
        c.sentence(9, "Byte i of a TEXT is v, cut to a byte (-128 .. 127): what it was, and 1000 more.");
        ClockFeet x = new ClockFeet();
        x.text(1, 60);
        int[] values = {127, 128, 255, 256, -128, -129, 0, MOST, LEAST, 383, 384, 65};
        int[] bytes = {127, -128, -1, 0, -128, 127, 0, -1, 0, 127, -128, 65};
        int before = 32;
        for (int i = 0; i < values.length; i++) {
            c.is(x.put(1, 59, values[i]), 1000 + before);
            before = bytes[i];
        }
        c.is(x.put(1, 0, 7), 1032);
        c.is(x.put(1, 59, 7), 1065);
        c.is(x.asked(), 0);
        c.sentence(9, "BAD;");
        Twins.changesNothing(c, Halls::busy, BAD, y -> y.put(-1, 0, 5));
        Twins.changesNothing(c, Halls::busy, BAD, y -> y.put(4, 0, 5));
        Twins.changesNothing(c, Halls::busy, BAD, y -> y.put(4, -1, 5));
        c.sentence(9, "NOTHING;");
        Twins.finds(c, ClockFeet::new, NOTHING, y -> y.put(0, 0, 5));
        Twins.finds(c, ClockFeet::new, NOTHING, y -> y.put(3, -1, 5));
        c.sentence(9, "BEYOND.");
        Twins.finds(c, Halls::busy, BEYOND, y -> y.put(0, -1, 5));
        Twins.finds(c, Halls::busy, BEYOND, y -> y.put(0, 3, 5));
        Twins.finds(c, Halls::busy, BEYOND, y -> y.put(2, 0, 5));
        Twins.finds(c, Halls::busy, BEYOND, y -> y.put(3, MOST, 5));
        Twins.finds(c, Halls::busy, BEYOND, y -> y.put(3, LEAST, 5));
        c.is(Halls.busy().put(0, 2, 5), 1000 + '2');
        c.finds(x, x.put(1, 60, 5), BEYOND);
    }

    private static void fault(Checks c) {
        c.sentence(10, "A FAULT of a TEXT; NONE: there is none.");
        ClockFeet x = Halls.busy();
        c.is(x.fault(0), 3);
        c.is(x.fault(1), NONE);
        c.is(x.fault(2), 0);
        c.is(x.fault(3), NONE);
        c.is(x.count(1), 12);
        Twins.changesNothing(c, Halls::busy, 3, y -> y.fault(0));
        Twins.changesNothing(c, Halls::busy, NONE, y -> y.fault(1));
        x.put(1, 0, 'x');
        c.is(x.fault(1), 0);
        x.put(1, 0, 'd');
        c.is(x.fault(1), NONE);
        c.sentence(10, "BAD;");
        Twins.changesNothing(c, Halls::busy, BAD, y -> y.fault(-1));
        Twins.changesNothing(c, Halls::busy, BAD, y -> y.fault(4));
        c.sentence(10, "NOTHING.");
        Twins.finds(c, ClockFeet::new, NOTHING, y -> y.fault(0));
        Twins.finds(c, ClockFeet::new, NOTHING, y -> y.fault(3));
    }

    private static void hall(Checks c) {
        c.sentence(11, "A HALL by a TEXT (anew: NOON, no ROUNDS, no STEPS, FLOOR 0; kept HALLS go): how many GUILDS.");
        ClockFeet x = Halls.busy();
        Halls.walk(x, 0, 0, 0);
        c.is(x.count(2), 5);
        c.is(x.count(3), 1);
        c.is(x.count(5), 1);
        c.is(x.hall(3), 6);
        for (int what = 2; what <= 5; what++) {
            c.is(x.count(what), 0);
        }
        c.is(x.count(10), 0);
        c.finds(x, x.on(0), NOTHING);
        c.finds(x, x.on(2), NOTHING);
        c.is(x.due(), 0);
        c.finds(x, x.pace(), NOUGHT);
        for (int g = 0; g < 6; g++) {
            c.is(Halls.detail(x, g, 4), 0);
        }
        c.is(x.shoe(0, 4), 5);
        c.is(x.hall(3), 6);
        c.is(Halls.detail(x, 0, 1), 5);
        c.is(x.hall(1), 1);
        c.is(x.count(0), 1);
        c.is(x.count(1), 13);
        c.is(x.count(6), 0);
        c.is(x.walk(1), BAD);
        c.is(x.walk(0), 4);
        ClockFeet rents = Halls.of("d12 g1 e01 e02");
        Halls.write(rents, 1, "d13 g1 e02 e03");
        rents.hall(1);
        Halls.walk(rents, 0);
        c.is(rents.due(), 0);
        Halls.walk(rents, 0, 0, 0);
        c.is(rents.due(), 2);
        c.is(rents.count(6), 2);
        c.sentence(11, "BAD;");
        Twins.changesNothing(c, Halls::busy, BAD, y -> y.hall(-1));
        Twins.changesNothing(c, Halls::busy, BAD, y -> y.hall(4));
        c.sentence(11, "NOTHING;");
        Twins.finds(c, ClockFeet::new, NOTHING, y -> y.hall(0));
        Twins.finds(c, () -> Halls.of("d12 g1"), NOTHING, y -> y.hall(3));
        c.sentence(11, "STATE: a FAULT.");
        Twins.changesNothing(c, Halls::busy, STATE, y -> y.hall(0));
        Twins.changesNothing(c, Halls::busy, STATE, y -> y.hall(2));
        Twins.changesNothing(c, Halls::empty, STATE, y -> y.hall(0));
        c.sentence(11, "(STATE behind NOTHING.)");
        Twins.finds(c, Halls::fourthMissing, NOTHING, y -> y.hall(3));
        Twins.changesNothing(c, Halls::fourthMissing, STATE, y -> y.hall(2));
    }

    private static void guild(Checks c) {
        c.sentence(12, "Of a GUILD: 0 the KIND,");
        ClockFeet x = Halls.busy();
        int[] kinds = {0, 1, 2, 3, 4, 5};
        int[] feet = {5, 2, 4, 1, 3, 9};
        int[] now = {2, 2, 1, 0, 2, 2};
        int[] bare = {5, 4, 3, 0, 5, 4};
        int[] walked = {2, 1, 0, 1, 1, 0};
        eachTells(c, x, 0, kinds);
        c.sentence(12, "1 FEET,");
        eachTells(c, x, 1, feet);
        c.sentence(12, "2 its TREAD now,");
        eachTells(c, x, 2, now);
        c.sentence(12, "3 its TREAD on a bare FLOOR,");
        eachTells(c, x, 3, bare);
        c.sentence(12, "4 how often it walked,");
        eachTells(c, x, 4, walked);
        c.sentence(12, "all told by asked(): 1.");
        x.floor(2);
        eachTells(c, x, 1, feet);
        eachTells(c, x, 2, 0, 0, 0, 0, 0, 0);
        eachTells(c, x, 3, bare);
        x.undo(1);
        eachTells(c, x, 2, bare);
        eachTells(c, x, 4, 1, 0, 0, 0, 0, 0);
        Twins.asks(c, Halls::busy, y -> y.guild(5, 4));
        c.sentence(12, "BAD.");
        Twins.changesNothing(c, Halls::busy, BAD, y -> y.guild(-1, 0));
        Twins.changesNothing(c, Halls::busy, BAD, y -> y.guild(6, 0));
        Twins.changesNothing(c, Halls::busy, BAD, y -> y.guild(0, -1));
        Twins.changesNothing(c, Halls::busy, BAD, y -> y.guild(0, 5));
        Twins.changesNothing(c, Halls::busy, BAD, y -> y.guild(MOST, LEAST));
        Twins.changesNothing(c, Halls::empty, BAD, y -> y.guild(0, 0));
        ClockFeet one = Halls.of("d12 g1");
        c.is(one.guild(1, 0), BAD);
        c.is(one.guild(0, 0), 1);
    }

    private static void eachTells(Checks c, ClockFeet x, int what, int... due) {
        for (int g = 0; g < due.length; g++) {
            c.tells(x, x.guild(g, what), due[g]);
        }
    }

    private static void mark(Checks c) {
        c.sentence(13, "What a GUILD that IS of a KIND tells:");
        ClockFeet x = Halls.of("d25 g2 h3 c2 k9 r5 t9");
        int[][] due = {
            {-3, -3, -3, -3, -3},
            {3, -3, -3, -3, -3},
            {-3, 2, -3, -3, -3},
            {-3, -3, 1, -3, -3},
            {3, -3, -3, 2, -3},
            {-3, 2, -3, -3, 7}};
        for (int g = 0; g < 6; g++) {
            for (int kind = 1; kind <= 5; kind++) {
                c.is(x.mark(g, kind), due[g][kind - 1]);
            }
        }
        c.is(x.asked(), 0);
        c.sentence(13, "a HEAVY one (REGIMENT, too) how many TEETH more it treads on a bare FLOOR than a GUILD of its FEET,");
        int[] regiments = {1, 1, 2, 2, 3, 3, 4, 4, 5};
        for (int feet = 1; feet <= 9; feet++) {
            ClockFeet y = Halls.of("d12 h" + feet + " r" + feet);
            c.is(y.mark(0, 1), feet);
            c.is(y.mark(1, 1), regiments[feet - 1]);
            y.floor(2);
            c.is(y.mark(0, 1), feet);
            c.is(y.mark(1, 1), regiments[feet - 1]);
        }
        c.sentence(13, "CHILDREN (TIPTOE, too) how many CHILDREN (TIPTOE, too) there are,");
        c.is(Halls.of("d12 c1").mark(0, 2), 1);
        c.is(Halls.of("d12 t1").mark(0, 2), 1);
        c.is(Halls.of("d12 c1 t1 c1 t1 c1 t1").mark(5, 2), 6);
        c.is(Halls.of("d12 g1 h1 k1 r1 t1 c9").mark(5, 2), 2);
        c.is(Halls.of("d12 g1 h1 k1 r1 t1 c9").mark(4, 2), 2);
        c.sentence(13, "CATS how many GUILDS tread no TEETH now,");
        ClockFeet still = Halls.of("d12 k9 c1 t2 g1 r1 t5");
        c.is(still.mark(0, 3), 3);
        still.floor(1);
        c.is(still.mark(0, 3), 4);
        still.floor(2);
        c.is(still.mark(0, 3), 6);
        c.is(Halls.of("d12 g1 k1").mark(1, 3), 1);
        c.sentence(13, "a REGIMENT how many FEET of it count none,");
        int[] none = {0, 1, 1, 2, 2, 3, 3, 4, 4};
        for (int feet = 1; feet <= 9; feet++) {
            c.is(Halls.of("d12 r" + feet).mark(0, 4), none[feet - 1]);
        }
    }

    private static void markOfRound(Checks c) {
        c.sentence(13, "a TIPTOE the fewest walks of it on a bare FLOOR that make a whole ROUND at least");
        c.is(Halls.of("d12 t3").mark(0, 5), 12);
        c.is(Halls.of("d12 t5").mark(0, 5), 6);
        c.is(Halls.of("d13 t5").mark(0, 5), 7);
        c.is(Halls.of("d12 t7").mark(0, 5), 4);
        c.is(Halls.of("d12 t9").mark(0, 5), 3);
        c.is(Halls.of("d60 t3").mark(0, 5), 60);
        c.is(Halls.of("d60 t9").mark(0, 5), 15);
        c.is(Halls.of("d59 t9").mark(0, 5), 15);
        c.is(Halls.of("d57 t9").mark(0, 5), 15);
        c.is(Halls.of("d56 t9").mark(0, 5), 14);
        ClockFeet x = Halls.of("d24 t8");
        x.walk(0);
        x.floor(2);
        c.is(x.mark(0, 5), 8);
        c.sentence(13, "(NONE: it treads none).");
        c.is(Halls.of("d12 t1").mark(0, 5), NONE);
        c.is(Halls.of("d12 t2").mark(0, 5), NONE);
        x.undo(0);
        x.shoe(0, 2);
        c.is(x.mark(0, 5), NONE);
        Twins.changesNothing(c, () -> Halls.of("d12 t2 g1"), NONE, y -> y.mark(0, 5));
        c.sentence(13, "BAD: also KIND 0;");
        Twins.changesNothing(c, Halls::busy, BAD, y -> y.mark(0, 0));
        Twins.changesNothing(c, Halls::busy, BAD, y -> y.mark(1, 0));
        Twins.changesNothing(c, Halls::busy, BAD, y -> y.mark(1, -1));
        Twins.changesNothing(c, Halls::busy, BAD, y -> y.mark(5, 6));
        Twins.changesNothing(c, Halls::busy, BAD, y -> y.mark(-1, 1));
        Twins.changesNothing(c, Halls::busy, BAD, y -> y.mark(6, 1));
        Twins.changesNothing(c, Halls::empty, BAD, y -> y.mark(0, 1));
        c.sentence(13, "UNLIKE.");
        Twins.finds(c, Halls::busy, UNLIKE, y -> y.mark(0, 1));
        Twins.finds(c, Halls::busy, UNLIKE, y -> y.mark(1, 4));
        Twins.finds(c, Halls::busy, UNLIKE, y -> y.mark(2, 5));
        Twins.finds(c, Halls::busy, UNLIKE, y -> y.mark(5, 3));
    }

    private static void shoe(Checks c) {
        c.sentence(14, "FEET of a GUILD are v (1 .. 9): what they were.");
        ClockFeet x = Halls.of("d12 g4 r9");
        c.is(x.shoe(0, 9), 4);
        c.is(x.shoe(0, 1), 9);
        c.is(x.shoe(0, 1), 1);
        c.is(x.shoe(1, 2), 9);
        c.is(Halls.detail(x, 0, 1), 1);
        c.is(Halls.detail(x, 1, 1), 2);
        c.is(x.walk(0), 1);
        c.is(x.walk(1), 4);
        c.sentence(14, "BAD;");
        Twins.changesNothing(c, Halls::early, BAD, y -> y.shoe(0, 0));
        Twins.changesNothing(c, Halls::early, BAD, y -> y.shoe(0, 10));
        Twins.changesNothing(c, Halls::early, BAD, y -> y.shoe(0, LEAST));
        Twins.changesNothing(c, Halls::early, BAD, y -> y.shoe(-1, 5));
        Twins.changesNothing(c, Halls::early, BAD, y -> y.shoe(6, 5));
        Twins.changesNothing(c, Halls::busy, BAD, y -> y.shoe(0, 0));
        Twins.changesNothing(c, Halls::busy, BAD, y -> y.shoe(6, 5));
        Twins.changesNothing(c, Halls::empty, BAD, y -> y.shoe(0, 5));
        c.sentence(14, "STATE: there are STEPS.");
        Twins.changesNothing(c, Halls::busy, STATE, y -> y.shoe(0, 7));
        Twins.changesNothing(c, Halls::full, STATE, y -> y.shoe(5, 1));
        ClockFeet y = Halls.of("d12 g4");
        y.floor(1);
        c.is(y.shoe(0, 5), STATE);
        y.undo(0);
        c.is(y.shoe(0, 5), 4);
        y.floor(1);
        y.floor(0);
        c.is(y.shoe(0, 5), STATE);
    }
}

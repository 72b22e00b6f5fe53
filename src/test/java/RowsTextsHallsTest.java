/** Promises 1 to 14: rows, texts, halls. */
final class RowsTextsHallsTest {
    private static final int NOTHING = 1, BEYOND = 2, UNLIKE = 3, NOUGHT = 4, SIZE = 5;

    private RowsTextsHallsTest() {
    }

    static void run(Checks c) {
        newObject(c);
        row(c);
        layAndAt(c);
        tear(c);
        copy(c);
        mean(c);
        textAndPut(c);
        faultOfDial(c);
        faultOfGuilds(c);
        faultOfRents(c);
        faultRefused(c);
        hall(c);
        hallAnew(c);
        guild(c);
        treads(c);
        mark(c);
        shoe(c);
    }

    private static void newObject(Checks c) {
        c.promise(1);
        ClockFeet x = new ClockFeet();
        for (int what = 0; what <= 10; what++) {
            c.is(x.count(what), 0);
        }
        for (int r = 0; r < 6; r++) {
            c.finds(x, x.at(r, 0), NOTHING);
        }
        for (int t = 0; t < 4; t++) {
            c.finds(x, x.fault(t), NOTHING);
        }
        c.is(x.guild(0, 0), ClockFeet.BAD);
        c.is(new ClockFeet().finding(), 0);
    }

    private static void row(Checks c) {
        c.promise(2);
        ClockFeet x = new ClockFeet();
        c.is(x.row(0, 3), 3);
        c.tells(x, x.at(0, 2), 0);
        c.finds(x, x.at(0, 3), BEYOND);
        c.is(x.row(5, 40), 40);
        c.tells(x, x.at(5, 39), 0);
        c.is(x.row(5, 0), 0);
        c.is(x.count(8), 2);
        x.lay(0, 1, 7);
        c.is(x.row(0, 41), ClockFeet.BAD);
        c.finds(x, x.row(0, -1), SIZE);
        c.tells(x, x.at(0, 1), 7);
        c.is(x.row(0, 2), 2);
        c.tells(x, x.at(0, 1), 0);
        c.is(x.row(6, 1), ClockFeet.BAD);
        c.is(x.row(-1, 1), ClockFeet.BAD);
        c.is(x.row(6, -1), ClockFeet.BAD);
        c.is(x.row(0, Integer.MAX_VALUE), ClockFeet.BAD);
        c.finds(x, x.row(0, Integer.MIN_VALUE), SIZE);
        c.is(x.findings(SIZE), 2);
    }

    private static void layAndAt(Checks c) {
        c.promise(3);
        ClockFeet x = new ClockFeet();
        c.finds(x, x.lay(1, 0, 5), NOTHING);
        c.finds(x, x.lay(1, -1, 5), NOTHING);
        x.row(1, 2);
        c.tells(x, x.lay(1, 0, Integer.MIN_VALUE), 0);
        c.tells(x, x.lay(1, 0, 6), Integer.MIN_VALUE);
        c.tells(x, x.lay(1, 1, 9), 0);
        c.finds(x, x.lay(1, 2, 5), BEYOND);
        c.finds(x, x.lay(1, -1, 5), BEYOND);
        c.is(x.asked(), 0);
        c.is(x.lay(6, 0, 5), ClockFeet.BAD);
        c.is(x.lay(-1, 0, 5), ClockFeet.BAD);
        c.promise(4);
        c.tells(x, x.at(1, 0), 6);
        c.tells(x, x.at(1, 1), 9);
        c.finds(x, x.at(1, 2), BEYOND);
        c.finds(x, x.at(1, -1), BEYOND);
        c.finds(x, x.at(0, -1), NOTHING);
        c.is(x.at(6, 0), ClockFeet.BAD);
        c.is(x.at(-1, 0), ClockFeet.BAD);
        c.is(x.asked(), 9);
    }

    private static void tear(Checks c) {
        c.promise(5);
        ClockFeet x = new ClockFeet();
        c.finds(x, x.tear(4), NOTHING);
        x.row(4, 2);
        x.row(3, 0);
        c.is(x.tear(4), 1);
        c.finds(x, x.at(4, 0), NOTHING);
        c.finds(x, x.tear(4), NOTHING);
        c.is(x.count(8), 1);
        c.is(x.tear(3), 1);
        c.is(x.tear(6), ClockFeet.BAD);
        c.is(x.tear(-1), ClockFeet.BAD);
    }

    private static void copy(Checks c) {
        c.promise(6);
        ClockFeet x = new ClockFeet();
        Halls.fill(x, 0, 1, 2, 3, 4);
        Halls.fill(x, 1, 9, 8, 7);
        c.is(x.copy(0, 1, 1, 0, 2), 1);
        c.is(Halls.cell(x, 1, 0), 2);
        c.is(Halls.cell(x, 1, 1), 3);
        c.is(Halls.cell(x, 1, 2), 7);
        c.is(Halls.cell(x, 0, 1), 2);
        c.is(x.copy(0, 0, 0, 1, 3), 1);
        c.is(Halls.cell(x, 0, 0), 1);
        c.is(Halls.cell(x, 0, 1), 1);
        c.is(Halls.cell(x, 0, 2), 2);
        c.is(Halls.cell(x, 0, 3), 3);
        c.is(x.copy(0, 2, 0, 0, 2), 1);
        c.is(Halls.cell(x, 0, 0), 2);
        c.is(Halls.cell(x, 0, 1), 3);
        c.is(x.copy(0, 4, 1, 3, 0), 1);
        c.finds(x, x.copy(0, 5, 1, 0, 0), BEYOND);
        c.finds(x, x.copy(0, 0, 1, 4, 0), BEYOND);
        c.finds(x, x.copy(0, -1, 1, 0, 0), BEYOND);
        c.finds(x, x.copy(0, 0, 1, -1, 0), BEYOND);
        c.finds(x, x.copy(0, 0, 1, 0, 4), BEYOND);
        c.finds(x, x.copy(1, 0, 0, 2, 3), BEYOND);
        c.finds(x, x.copy(0, 1, 1, 0, Integer.MAX_VALUE), BEYOND);
        c.finds(x, x.copy(0, Integer.MAX_VALUE, 1, 0, 1), BEYOND);
        c.finds(x, x.copy(0, 0, 2, 9, 1), NOTHING);
        c.finds(x, x.copy(2, 9, 0, 0, 1), NOTHING);
        c.finds(x, x.copy(2, 0, 2, 0, -1), SIZE);
        c.is(x.copy(6, 0, 0, 0, -1), ClockFeet.BAD);
        c.is(x.copy(0, 0, 6, 0, 1), ClockFeet.BAD);
        c.is(x.copy(-1, 0, 0, 0, 1), ClockFeet.BAD);
        c.is(x.copy(0, 0, -1, 0, 1), ClockFeet.BAD);
    }

    private static void mean(Checks c) {
        c.promise(7);
        ClockFeet x = new ClockFeet();
        Halls.fill(x, 0, 1, 2, 5);
        c.tells(x, x.mean(0), 2);
        Halls.fill(x, 0, 1, 2, 4, 4);
        c.tells(x, x.mean(0), 2);
        Halls.fill(x, 0, -3, 0);
        c.tells(x, x.mean(0), -1);
        Halls.fill(x, 0, Integer.MAX_VALUE, Integer.MAX_VALUE);
        c.tells(x, x.mean(0), Integer.MAX_VALUE);
        x.row(1, 0);
        c.finds(x, x.mean(1), NOUGHT);
        c.finds(x, x.mean(2), NOTHING);
        c.is(x.mean(6), ClockFeet.BAD);
        c.is(x.mean(-1), ClockFeet.BAD);
        c.is(x.asked(), Integer.MAX_VALUE);
    }

    private static void textAndPut(Checks c) {
        c.promise(8);
        ClockFeet x = new ClockFeet();
        c.is(x.text(0, 60), 60);
        c.is(x.text(3, 0), 0);
        c.is(x.count(9), 2);
        c.is(x.put(0, 59, 65), 1032);
        c.is(x.text(0, 61), ClockFeet.BAD);
        c.finds(x, x.text(0, -1), SIZE);
        c.is(x.put(0, 59, 66), 1065);
        c.is(x.text(0, 60), 60);
        c.is(x.put(0, 59, 66), 1032);
        c.is(x.text(4, 1), ClockFeet.BAD);
        c.is(x.text(-1, -1), ClockFeet.BAD);
        c.promise(9);
        c.is(x.put(0, 0, 200), 1032);
        c.is(x.put(0, 0, -128), 1000 + 200 - 256);
        c.is(x.put(0, 0, 127), 1000 - 128);
        c.is(x.put(0, 0, 256 + 5), 1127);
        c.is(x.put(0, 0, 0), 1005);
        c.finds(x, x.put(0, 60, 1), BEYOND);
        c.finds(x, x.put(0, -1, 1), BEYOND);
        c.finds(x, x.put(3, 0, 1), BEYOND);
        c.finds(x, x.put(1, -1, 1), NOTHING);
        c.is(x.put(4, 0, 1), ClockFeet.BAD);
        c.is(x.put(-1, 0, 1), ClockFeet.BAD);
    }

    private static void faultOfDial(Checks c) {
        c.promise(10);
        c.is(Halls.faultOf("d12g1"), ClockFeet.NONE);
        c.is(Halls.faultOf("  d60   g9  "), ClockFeet.NONE);
        c.is(Halls.faultOf(""), 0);
        c.is(Halls.faultOf("   "), 3);
        c.is(Halls.faultOf("  x"), 2);
        c.is(Halls.faultOf("g1d12"), 0);
        c.is(Halls.faultOf("d"), 1);
        c.is(Halls.faultOf("d1"), 2);
        c.is(Halls.faultOf("d7"), 2);
        c.is(Halls.faultOf("d7x"), 2);
        c.is(Halls.faultOf("d 12g1"), 1);
        c.is(Halls.faultOf("d1 2g1"), 2);
        c.is(Halls.faultOf("d11g1"), 1);
        c.is(Halls.faultOf("d61g1"), 1);
        c.is(Halls.faultOf("d00"), 1);
        c.is(Halls.faultOf("d/2g1"), 1);
        c.is(Halls.faultOf("d1:g1"), 2);
        c.is(Halls.faultOf("D12g1"), 0);
        c.is(Halls.faultOf("d12"), 3);
        c.is(Halls.faultOf("d12   "), 6);
        c.is(Halls.faultOf("d123"), 3);
    }

    private static void faultOfGuilds(Checks c) {
        c.promise(10);
        c.is(Halls.faultOf("d12g1h2c3k4r5t6"), ClockFeet.NONE);
        c.is(Halls.faultOf("d12 g"), 5);
        c.is(Halls.faultOf("d12 g "), 5);
        c.is(Halls.faultOf("d12 g0"), 5);
        c.is(Halls.faultOf("d12 gg"), 5);
        c.is(Halls.faultOf("d12 g12"), 6);
        c.is(Halls.faultOf("d12 a1"), 4);
        c.is(Halls.faultOf("d12 G1"), 4);
        c.is(Halls.faultOf("d12 d12"), 4);
        c.is(Halls.faultOf("d12g1g1g1g1g1g1"), ClockFeet.NONE);
        c.is(Halls.faultOf("d12g1g1g1g1g1g1 g1"), 16);
        c.is(Halls.faultOf("d12g1g1g1g1g1g1g"), 15);
        c.is(Halls.faultOf("d12g1g1g1g1g1g1x"), 15);
        c.is(Halls.faultOf("d12g1\t"), 5);
        c.is(Halls.faultOf("d12g1" + (char) 200), 5);
    }

    private static void faultOfRents(Checks c) {
        c.promise(10);
        c.is(Halls.faultOf("d12g1e01e11"), ClockFeet.NONE);
        c.is(Halls.faultOf("d60g1 e59 e01"), ClockFeet.NONE);
        c.is(Halls.faultOf("d12 e01"), 4);
        c.is(Halls.faultOf("d12g1e"), 6);
        c.is(Halls.faultOf("d12g1e0"), 7);
        c.is(Halls.faultOf("d12g1e00"), 6);
        c.is(Halls.faultOf("d12g1e12"), 6);
        c.is(Halls.faultOf("d12g1e99"), 6);
        c.is(Halls.faultOf("d12g1e9"), 7);
        c.is(Halls.faultOf("d12g1ex1"), 6);
        c.is(Halls.faultOf("d12g1e0x"), 7);
        c.is(Halls.faultOf("d12g1e 01"), 6);
        c.is(Halls.faultOf("d12g1e05 e06e05"), 13);
        c.is(Halls.faultOf("d12g1e05g1"), 8);
        c.is(Halls.faultOf("d12g1e05x"), 8);
        c.is(Halls.faultOf("d12g1e01e02e03e04e05e06"), ClockFeet.NONE);
        c.is(Halls.faultOf("d12g1e01e02e03e04e05e06e07"), 23);
        c.is(Halls.faultOf("d12g1e01e02e03e04e05e06e"), 23);
        c.is(Halls.faultOf("d12g1g1g1g1g1g1e01g1"), 18);
        c.is(Halls.faultOf("d60g1g1g1g1g1g1 e01 e02 e03 e04 e05                      e59"), ClockFeet.NONE);
    }

    private static void faultRefused(Checks c) {
        c.promise(10);
        ClockFeet x = new ClockFeet();
        c.finds(x, x.fault(0), NOTHING);
        c.is(x.fault(4), ClockFeet.BAD);
        c.is(x.fault(-1), ClockFeet.BAD);
        Halls.write(x, 1, "d12g1");
        c.is(x.fault(1), ClockFeet.NONE);
        c.is(x.count(0), 0);
        Halls.write(x, 2, "d12g1e05e07");
        c.is(x.fault(2), ClockFeet.NONE);
        c.is(x.fault(2), ClockFeet.NONE);
        c.is(x.hall(2), 1);
        c.is(x.fault(1), ClockFeet.NONE);
        c.is(x.count(6), 2);
    }

    private static void hall(Checks c) {
        c.promise(11);
        ClockFeet x = new ClockFeet();
        c.finds(x, x.hall(2), NOTHING);
        c.is(x.hall(4), ClockFeet.BAD);
        c.is(x.hall(-1), ClockFeet.BAD);
        Halls.write(x, 2, "d12");
        c.is(x.hall(2), ClockFeet.STATE);
        c.is(x.count(1), 0);
        Halls.write(x, 2, " d47 r9  c4k1e46 e03 ");
        c.is(x.hall(2), 3);
        c.is(x.count(0), 3);
        c.is(x.count(1), 47);
        c.is(x.count(6), 2);
        c.is(Halls.detail(x, 0, 0), 4);
        c.is(Halls.detail(x, 1, 0), 2);
        c.is(Halls.detail(x, 2, 0), 3);
        x.text(2, 0);
        c.is(x.count(0), 3);
    }

    private static void hallAnew(Checks c) {
        c.promise(11);
        ClockFeet x = Halls.of("d12 g9 g8 e09");
        Halls.walk(x, 0, 0, 1);
        x.floor(2);
        x.keep(0);
        x.keep(2);
        Halls.write(x, 0, "d12 g9 g8 g7 x");
        c.is(x.hall(0), ClockFeet.STATE);
        c.is(x.count(4), 4);
        c.is(x.count(10), 2);
        c.finds(x, x.hall(1), NOTHING);
        c.is(x.count(10), 2);
        Halls.write(x, 0, "d13 g5");
        c.is(x.hall(0), 1);
        c.is(x.count(0), 1);
        for (int what = 2; what <= 6; what++) {
            c.is(x.count(what), 0);
        }
        c.is(x.count(10), 0);
        c.is(x.due(), 0);
        c.is(Halls.detail(x, 0, 4), 0);
        c.is(x.guild(1, 0), ClockFeet.BAD);
        c.finds(x, x.on(0), NOTHING);
        c.finds(x, x.pace(), NOUGHT);
    }

    private static void guild(Checks c) {
        c.promise(12);
        ClockFeet x = Halls.of("d20 h7 t8");
        c.tells(x, x.guild(0, 0), 1);
        c.tells(x, x.guild(0, 1), 7);
        c.tells(x, x.guild(0, 2), 14);
        c.tells(x, x.guild(0, 3), 14);
        c.tells(x, x.guild(0, 4), 0);
        Halls.walk(x, 1, 0, 1);
        c.tells(x, x.guild(0, 4), 1);
        c.tells(x, x.guild(1, 4), 2);
        x.floor(1);
        c.tells(x, x.guild(1, 2), 1);
        c.tells(x, x.guild(1, 3), 3);
        x.floor(2);
        c.tells(x, x.guild(1, 2), 0);
        c.tells(x, x.guild(1, 3), 3);
        x.undo(1);
        c.tells(x, x.guild(0, 4), 0);
        c.tells(x, x.guild(1, 4), 1);
        c.is(x.guild(2, 0), ClockFeet.BAD);
        c.is(x.guild(-1, 0), ClockFeet.BAD);
        c.is(x.guild(0, 5), ClockFeet.BAD);
        c.is(x.guild(0, -1), ClockFeet.BAD);
        c.is(x.asked(), 1);
        c.is(new ClockFeet().guild(0, 0), ClockFeet.BAD);
    }

    /** Of each KIND (g h c k r t as they stand here) the TREADS of 1 to 9 FEET. */
    private static void treads(Checks c) {
        c.promise(12);
        int[][] bare = {
            {1, 2, 3, 4, 5, 6, 7, 8, 9},
            {2, 4, 6, 8, 10, 12, 14, 16, 18},
            {0, 1, 2, 3, 4, 5, 6, 7, 8},
            {0, 0, 0, 0, 0, 0, 0, 0, 0},
            {2, 3, 5, 6, 8, 9, 11, 12, 14},
            {0, 0, 1, 1, 2, 2, 3, 3, 4}};
        int[][] carpet = {
            {0, 1, 1, 2, 2, 3, 3, 4, 4},
            {1, 2, 3, 4, 5, 6, 7, 8, 9},
            {0, 0, 1, 1, 2, 2, 3, 3, 4},
            {0, 0, 0, 0, 0, 0, 0, 0, 0},
            {1, 1, 2, 3, 4, 4, 5, 6, 7},
            {0, 0, 0, 0, 1, 1, 1, 1, 2}};
        for (int feet = 1; feet <= 9; feet++) {
            ClockFeet x = Halls.of("d60g1h1c1k1r1t1");
            for (int g = 0; g < 6; g++) {
                x.shoe(g, feet);
                c.is(Halls.detail(x, g, 0), g);
                c.is(Halls.detail(x, g, 2), bare[g][feet - 1]);
            }
            x.floor(1);
            for (int g = 0; g < 6; g++) {
                c.is(Halls.detail(x, g, 2), carpet[g][feet - 1]);
                c.is(Halls.detail(x, g, 3), bare[g][feet - 1]);
            }
            x.floor(2);
            for (int g = 0; g < 6; g++) {
                c.is(Halls.detail(x, g, 2), 0);
            }
        }
    }

    private static void mark(Checks c) {
        c.promise(13);
        ClockFeet x = Halls.of("d25 g2 h3 c1 k9 r5 t9");
        c.is(x.mark(1, 1), 3);
        c.is(x.mark(4, 1), 3);
        c.is(x.mark(2, 2), 2);
        c.is(x.mark(5, 2), 2);
        c.is(x.mark(3, 3), 2);
        c.is(x.mark(4, 4), 2);
        c.is(x.mark(5, 5), 7);
        int[] kinds = {0, 1, 2, 3, 4, 5};
        for (int g : kinds) {
            for (int kind = 1; kind <= 5; kind++) {
                boolean is = kind == g || kind == 1 && g == 4 || kind == 2 && g == 5;
                if (!is) {
                    c.finds(x, x.mark(g, kind), UNLIKE);
                }
            }
            c.is(x.mark(g, 0), ClockFeet.BAD);
            c.is(x.mark(g, 6), ClockFeet.BAD);
        }
        c.is(x.mark(6, 1), ClockFeet.BAD);
        c.is(x.mark(-1, 1), ClockFeet.BAD);
        x.floor(1);
        c.is(x.mark(1, 1), 3);
        c.is(x.mark(3, 3), 2);
        c.is(x.mark(5, 5), 7);
        x.floor(2);
        c.is(x.mark(1, 1), 3);
        c.is(x.mark(4, 1), 3);
        c.is(x.mark(3, 3), 6);
        c.is(x.mark(5, 5), 7);
        c.is(Halls.of("d12 r1").mark(0, 1), 1);
        c.is(Halls.of("d12 r1").mark(0, 4), 0);
        c.is(Halls.of("d12 t2").mark(0, 5), ClockFeet.NONE);
        c.is(Halls.of("d12 t3").mark(0, 5), 12);
        c.is(Halls.of("d12 t9").mark(0, 5), 3);
        c.is(Halls.of("d13 t9").mark(0, 5), 4);
        c.is(Halls.of("d12 k1 c1 c2").mark(0, 3), 2);
        c.is(Halls.of("d12 c1 g5 c2").mark(0, 2), 2);
        c.is(new ClockFeet().mark(0, 1), ClockFeet.BAD);
    }

    private static void shoe(Checks c) {
        c.promise(14);
        ClockFeet x = Halls.of("d12 g4 h2");
        c.is(x.shoe(0, 9), 4);
        c.is(x.shoe(0, 1), 9);
        c.is(x.shoe(1, 5), 2);
        c.is(Halls.detail(x, 0, 2), 1);
        c.is(Halls.detail(x, 1, 2), 10);
        c.is(x.shoe(0, 0), ClockFeet.BAD);
        c.is(x.shoe(0, 10), ClockFeet.BAD);
        c.is(x.shoe(2, 1), ClockFeet.BAD);
        c.is(x.shoe(-1, 1), ClockFeet.BAD);
        x.floor(1);
        c.is(x.shoe(0, 2), ClockFeet.STATE);
        c.is(x.shoe(0, 10), ClockFeet.BAD);
        c.is(Halls.detail(x, 0, 1), 1);
        x.undo(0);
        c.is(x.shoe(0, 2), 1);
        x.walk(0);
        c.is(x.shoe(0, 3), ClockFeet.STATE);
        c.is(new ClockFeet().shoe(0, 1), ClockFeet.BAD);
    }
}

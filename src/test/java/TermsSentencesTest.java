/** The sentences of the document's Terms, one by one. */
final class TermsSentencesTest {
    private static final int NOTHING = 1, BEYOND = 2, UNLIKE = 3, NOUGHT = 4, SIZE = 5;
    private static final int BAD = ClockFeet.BAD, FULL = ClockFeet.FULL, STATE = ClockFeet.STATE, NONE = ClockFeet.NONE;

    private TermsSentencesTest() {
    }

    static void run(Checks c) {
        orderOfRefusals(c);
        noneLeavesRows(c);
        refusedChangesNothing(c);
        findings(c);
        ratios(c);
        sets(c);
        rowsAndTexts(c);
        blanks(c);
        dialItem(c);
        guildItems(c);
        rentItems(c);
        faultsOfPlaces(c);
        faultsOfFirstPlaces(c);
        faultsOfEnds(c);
        kinds(c);
        treads(c);
        floors(c);
        dial(c);
        rents(c);
        steps(c);
        orders(c);
    }

    private static void says(Checks c, String words) {
        c.sentence(Document.TERMS, words);
    }

    /** Calls that could be refused for two reasons at once. */
    private static void orderOfRefusals(Checks c) {
        says(c, "ANSWERS. Refused is, the first of these that fits, in this order: BAD -1 (a number that is none, or not as "
            + "told), FULL -2, STATE -4 (not now), SPENT -6 (more than told), FINDING -3 (finding() tells which), "
            + "unless a call says so otherwise.");
        c.is(BAD, -1);
        c.is(FULL, -2);
        c.is(STATE, -4);
        c.is(ClockFeet.SPENT, -6);
        c.is(ClockFeet.FINDING, -3);
        ClockFeet full = Halls.full();
        c.is(full.walk(6), BAD);
        c.is(full.walk(5), FULL);
        c.is(full.floor(3), BAD);
        c.is(full.lots(0, 1), BAD);
        c.is(full.lots(1, 0), BAD);
        c.is(full.shoe(0, 10), BAD);
        c.is(full.shoe(6, 1), BAD);
        c.is(full.row(6, -1), BAD);
        c.is(full.text(4, -1), BAD);
        c.is(full.mark(6, 1), BAD);
        c.is(full.mark(0, 6), BAD);
        ClockFeet empty = Halls.empty();
        c.is(empty.floor(3), BAD);
        c.is(empty.keep(3), BAD);
        c.is(empty.after(6), BAD);
        c.is(empty.after(4), STATE);
        c.is(empty.lots(31, 1), BAD);
        c.is(empty.walk(0), BAD);
        c.is(empty.shoe(0, 1), BAD);
        c.is(empty.finding(), BEYOND);
    }

    private static void noneLeavesRows(Checks c) {
        says(c, "NONE -9 (a ROW that something was to come to stays as it is then).");
        c.is(NONE, -9);
        ClockFeet x = Halls.of("d12 g1 g2 e03");
        Halls.fill(x, 0, 7, 8, 9);
        x.row(1, 0);
        c.is(x.order(0, 1, 0), NONE);
        c.same(Halls.cells(x, 0), "7 8 9");
        c.is(x.order(0, 1, 1), NONE);
        c.finds(x, x.at(1, 0), BEYOND);
        c.is(x.order(0, 1, 2), NONE);
        c.finds(x, x.at(2, 0), NOTHING);
        c.is(x.count(8), 2);
    }

    private static void refusedChangesNothing(Checks c) {
        says(c, "What is refused changes nothing but finding(), findings().");
        Twins.changesNothing(c, Halls::busy, BAD, x -> x.hall(4));
        Twins.changesNothing(c, Halls::busy, STATE, x -> x.hall(0));
        Twins.changesNothing(c, Halls::full, FULL, x -> x.walk(0));
        Twins.finds(c, Halls::busy, NOTHING, x -> x.on(1));
        Twins.finds(c, Halls::busy, BEYOND, x -> x.copy(0, 0, 3, 38, 3));
        Twins.finds(c, Halls::busy, UNLIKE, x -> x.after(2));
        Twins.finds(c, Halls::busy, NOUGHT, x -> x.mean(1));
        Twins.finds(c, Halls::busy, SIZE, x -> x.row(0, -1));
    }

    private static void findings(Checks c) {
        says(c, "FINDINGS: 1 NOTHING (a ROW, a TEXT, a kept HALL that is missing),");
        ClockFeet x = new ClockFeet();
        c.finds(x, x.at(0, 0), NOTHING);
        c.finds(x, x.fault(0), NOTHING);
        c.finds(x, x.on(0), NOTHING);
        c.is(x.findings(1), 3);
        says(c, "2 BEYOND (a place that there is not),");
        x.row(0, 1);
        c.finds(x, x.at(0, 1), BEYOND);
        c.is(x.at(0, 0), 1);
        c.is(x.findings(2), 1);
        says(c, "3 UNLIKE (a GUILD of another KIND; a number that is none),");
        x = Halls.of("d12 g1 h1");
        c.finds(x, x.mark(0, 1), UNLIKE);
        c.is(x.mark(1, 1), 1);
        Halls.fill(x, 0, 2);
        c.finds(x, x.after(0), UNLIKE);
        c.is(x.findings(3), 2);
        says(c, "4 NOUGHT (shared among none),");
        x.row(0, 0);
        c.finds(x, x.mean(0), NOUGHT);
        c.finds(x, x.pace(), NOUGHT);
        c.finds(x, x.sure(4), NOUGHT);
        c.finds(x, x.ask(4), NOUGHT);
        c.is(x.findings(4), 4);
        says(c, "5 SIZE (fewer than none; not as many as due).");
        c.finds(x, x.row(0, -1), SIZE);
        c.finds(x, x.text(0, -1), SIZE);
        c.finds(x, x.copy(0, 0, 0, 0, -1), SIZE);
        c.is(x.findings(5), 3);
    }

    private static void ratios(Checks c) {
        says(c, "Chances, means, numbers of ways are told by upper(), lower(), in lowest terms, the lower number above 0 (0 by 1).");
        ClockFeet x = Halls.of("d12 g4 g6 g2 g1");
        c.ratio(x, x.odds(4, 1), 1, 4);
        c.ratio(x, x.odds(8, 2), 3, 16);
        c.ratio(x, x.odds(10, 2), 1, 8);
        c.ratio(x, x.odds(11, 1), 0, 1);
        c.ratio(x, x.quiet(), 24, 1);
        c.ratio(x, x.fits(3), 1, 1);
        c.ratio(x, x.fits(6), 2, 1);
        c.ratio(x, x.fits(0), 2, 1);
        Halls.walk(x, 0, 1);
        c.ratio(x, x.pace(), 5, 1);
        x.walk(0);
        c.ratio(x, x.pace(), 14, 3);
        x.undo(0);
        x.floor(2);
        x.walk(0);
        c.ratio(x, x.pace(), 0, 1);
    }

    private static void sets(Checks c) {
        says(c, "Sets (of GUILDS) are told by bits.");
        ClockFeet x = Halls.of("d60 g1 g2 g4 g8 h8 k1");
        for (int n = 0; n < 32; n++) {
            c.told(x, x.sure(n), n, 31 - n);
            c.tells(x, x.fits(n), n);
        }
        c.tells(x, x.quiet(), 63);
        ClockFeet turned = Halls.of("d60 k1 h8 g8 g4 g2 g1");
        c.told(turned, turned.sure(1), 32, 30);
        c.told(turned, turned.sure(31), 62, 0);
        c.is(Halls.of("d12 g4 g6").keyed(), 3);
    }

    private static void rowsAndTexts(Checks c) {
        says(c, "ROWS 0 .. 5 are rows of 0 to 40 ints,");
        ClockFeet x = new ClockFeet();
        for (int r = 0; r <= 5; r++) {
            c.is(x.row(r, 40), 40);
            c.is(x.lay(r, 39, r == 0 ? Integer.MIN_VALUE : Integer.MAX_VALUE), 1);
        }
        c.is(Halls.cell(x, 0, 39), Integer.MIN_VALUE);
        c.is(Halls.cell(x, 5, 39), Integer.MAX_VALUE);
        c.is(x.count(8), 6);
        c.is(x.row(-1, 0), BAD);
        c.is(x.row(6, 0), BAD);
        c.is(x.row(0, 41), BAD);
        c.is(x.row(0, 0), 0);
        says(c, "TEXTS 0 .. 3 rows of 0 to 60 bytes,");
        for (int t = 0; t <= 3; t++) {
            c.is(x.text(t, 60), 60);
            c.is(x.put(t, 59, -128), 1032);
            c.is(x.put(t, 59, 127), 1000 - 128);
            c.is(x.put(t, 59, 0), 1127);
        }
        c.is(x.count(9), 4);
        c.is(x.text(-1, 0), BAD);
        c.is(x.text(4, 0), BAD);
        c.is(x.text(0, 61), BAD);
        c.is(x.text(0, 0), 0);
        says(c, "or missing (at first).");
        ClockFeet fresh = new ClockFeet();
        for (int r = 0; r <= 5; r++) {
            c.finds(fresh, fresh.tear(r), NOTHING);
        }
        for (int t = 0; t <= 3; t++) {
            c.finds(fresh, fresh.fault(t), NOTHING);
        }
        c.is(fresh.count(8), 0);
        c.is(fresh.count(9), 0);
    }

    private static void faultIs(Checks c, String signs, int due) {
        c.is(Halls.faultOf(signs), due);
    }

    private static void blanks(Checks c) {
        says(c, "A HALL (without GUILDS at first) is a TEXT:");
        ClockFeet x = new ClockFeet();
        c.is(x.count(0), 0);
        c.is(x.hour(), STATE);
        Halls.write(x, 2, "d12g1");
        c.is(x.count(0), 0);
        c.is(x.hall(2), 1);
        c.is(x.count(0), 1);
        says(c, "blanks (32) ahead, between, behind as many as wanted,");
        faultIs(c, "d12g1h2e03e04", NONE);
        faultIs(c, " d12 g1 h2 e03 e04 ", NONE);
        faultIs(c, "          d12          g1         h2        e03        e04  ", NONE);
        faultIs(c, "                                                       d12g1", NONE);
        faultIs(c, "d12g1                                                       ", NONE);
        faultIs(c, "d12" + (char) 31 + "g1", 3);
        faultIs(c, "d12" + (char) 33 + "g1", 3);
        faultIs(c, "d12" + (char) 9 + "g1", 3);
        faultIs(c, "d12" + (char) 0 + "g1", 3);
        faultIs(c, "d12" + (char) 160 + "g1", 3);
        faultIs(c, (char) 10 + "d12g1", 0);
        faultIs(c, "d12g1" + (char) 10, 5);
        faultIs(c, "d12g1e01" + (char) 13, 8);
        faultIs(c, "d12" + (char) (256 + 32) + "g1", NONE);
        says(c, "none within items.");
        faultIs(c, "d 12g1", 1);
        faultIs(c, "d1 2g1", 2);
        faultIs(c, "d12g 1", 4);
        faultIs(c, "d12g1e 01", 6);
        faultIs(c, "d12g1e0 1", 7);
    }

    private static void dialItem(Checks c) {
        says(c, "The first item is d (100)");
        faultIs(c, "d12g1", NONE);
        faultIs(c, (char) 99 + "12g1", 0);
        faultIs(c, (char) 101 + "12g1", 0);
        faultIs(c, "D12g1", 0);
        faultIs(c, "  g1d12", 2);
        faultIs(c, "12g1", 0);
        faultIs(c, "d12d12g1", 3);
        says(c, "and how many TEETH the DIAL has (two figures, 12 .. 60).");
        faultIs(c, "d12g1", NONE);
        faultIs(c, "d11g1", 1);
        faultIs(c, "d60g1", NONE);
        faultIs(c, "d61g1", 1);
        faultIs(c, "d00g1", 1);
        faultIs(c, "d09g1", 1);
        faultIs(c, "d99g1", 1);
        faultIs(c, "d9g1", 2);
        faultIs(c, "d012g1", 1);
        faultIs(c, "d120g1", 3);
        c.is(Halls.of("d12g1").count(1), 12);
        c.is(Halls.of("d60g1").count(1), 60);
    }

    private static void guildItems(Checks c) {
        says(c, "Then GUILDS (1 to 6; 0, 1, .. as they come):");
        faultIs(c, "d12", 3);
        c.is(Halls.of("d12g1").count(0), 1);
        c.is(Halls.of("d12g1g1g1g1g1g1").count(0), 6);
        faultIs(c, "d12g1g1g1g1g1g1g1", 15);
        ClockFeet x = Halls.of("d12 t6 r5 k4 c3 h2 g1");
        for (int g = 0; g < 6; g++) {
            c.is(Halls.detail(x, g, 0), 5 - g);
            c.is(Halls.detail(x, g, 1), 6 - g);
        }
        says(c, "a letter, FEET (one figure 1 .. 9).");
        faultIs(c, "d12g1", NONE);
        faultIs(c, "d12g9", NONE);
        faultIs(c, "d12g0", 4);
        faultIs(c, "d12g10", 5);
        faultIs(c, "d12g" + (char) 47, 4);
        faultIs(c, "d12g" + (char) 58, 4);
        faultIs(c, "d12g-1", 4);
        c.is(Halls.detail(Halls.of("d12k1"), 0, 1), 1);
        c.is(Halls.detail(Halls.of("d12k9"), 0, 1), 9);
    }

    private static void rentItems(Checks c) {
        says(c, "Then RENTS (6 at most):");
        faultIs(c, "d12g1", NONE);
        faultIs(c, "d12g1e01e02e03e04e05e06", NONE);
        faultIs(c, "d12g1e01e02e03e04e05e06e07", 23);
        c.is(Halls.of("d12g1").count(6), 0);
        c.is(Halls.of("d12g1e01").count(6), 1);
        c.is(Halls.of("d12g1e01e02e03e04e05e06").count(6), 6);
        says(c, "e (101), a TOOTH (two figures, 01 .. one less than TEETH;");
        faultIs(c, "d12g1e01", NONE);
        faultIs(c, "d12g1e00", 6);
        faultIs(c, "d12g1e11", NONE);
        faultIs(c, "d12g1e12", 6);
        faultIs(c, "d60g1e59", NONE);
        faultIs(c, "d60g1e60", 6);
        faultIs(c, "d13g1e12", NONE);
        faultIs(c, "d13g1e13", 6);
        faultIs(c, "d12g1e1", 7);
        faultIs(c, "d12g1e011", 8);
        faultIs(c, "d12g1" + (char) 100 + "01", 5);
        faultIs(c, "d12g1" + (char) 102 + "01", 5);
        faultIs(c, "d12g1E01", 5);
        says(c, "unlike).");
        faultIs(c, "d12g1e01e01", 9);
        faultIs(c, "d12g1e01e02", NONE);
        faultIs(c, "d60g1e59e58e57e59", 15);
        faultIs(c, "d60g1e01e02e03e04e05e01", 21);
    }

    private static void faultsOfPlaces(Checks c) {
        says(c, "A FAULT is the first place at which it can't go on so");
        faultIs(c, "d12 x1 y2", 4);
        faultIs(c, "d12 g0 g0 e99", 5);
        faultIs(c, "d99 g0", 1);
        faultIs(c, "d12 g1 e00 e00 x", 8);
        faultIs(c, "x d12g1", 0);
        says(c, "(a letter,");
        faultIs(c, "c12g1", 0);
        for (char letter = 0; letter < 256; letter++) {
            boolean guild = letter == 'g' || letter == 'h' || letter == 'c' || letter == 'k' || letter == 'r' || letter == 't';
            int due = guild ? NONE : letter == ' ' ? 4 : 3;
            faultIs(c, "d12" + letter + "1", due);
        }
        faultIs(c, "d12g1x", 5);
        faultIs(c, "d12g1e01x", 8);
        says(c, "a figure that is none,");
        faultIs(c, "dx2g1", 1);
        faultIs(c, "d1xg1", 2);
        faultIs(c, "d9xg1", 2);
        faultIs(c, "d12gxg1", 4);
        faultIs(c, "d12g1ex1", 6);
        faultIs(c, "d12g1e1x", 7);
        faultIs(c, "d12g1e9x", 7);
        faultIs(c, "d" + (char) 47 + "2g1", 1);
        faultIs(c, "d" + (char) 58 + "2g1", 1);
        faultIs(c, "d1" + (char) 47 + "g1", 2);
        faultIs(c, "d1" + (char) 58 + "g1", 2);
        faultIs(c, "d1" + (char) 178 + "g1", 2);
        says(c, "or 0 for FEET,");
        faultIs(c, "d12g0", 4);
        faultIs(c, "d12g1 k0", 7);
        says(c, "a seventh GUILD,");
        faultIs(c, "d12g1h1c1k1r1t1", NONE);
        faultIs(c, "d12g1h1c1k1r1t1 g1", 16);
        faultIs(c, "d12g1h1c1k1r1t1g", 15);
        faultIs(c, "d12g1h1c1k1r1t1g0", 15);
        says(c, "a seventh RENT,");
        faultIs(c, "d12g1e06e05e04e03e02e01", NONE);
        faultIs(c, "d12g1e06e05e04e03e02e01 e07", 24);
        faultIs(c, "d12g1e06e05e04e03e02e01e", 23);
        faultIs(c, "d12g1e06e05e04e03e02e01e01", 23);
        faultIs(c, "d12g1e06e05e04e03e02e01e99", 23);
        says(c, "a GUILD behind a RENT,");
        faultIs(c, "d12g1e01 g1", 9);
        faultIs(c, "d12g1e01k", 8);
        faultIs(c, "d12g1g1g1g1g1g1e01 g1", 19);
        says(c, "a RENT ahead of GUILDS: its place;");
        faultIs(c, "d12e01", 3);
        faultIs(c, "d12 e01 g1", 4);
        faultIs(c, "d12e", 3);
        faultIs(c, "d12exx", 3);
    }

    private static void faultsOfFirstPlaces(Checks c) {
        says(c, "two figures that are not as told,");
        faultIs(c, "d11", 1);
        faultIs(c, "d61", 1);
        faultIs(c, "   d11   ", 4);
        faultIs(c, "d12g1e00", 6);
        faultIs(c, "d12g1e12", 6);
        faultIs(c, "d12g1e99", 6);
        faultIs(c, "d12g1   e12", 9);
        says(c, "a TOOTH that is told already: the place of the first of both;");
        faultIs(c, "d12g1e11e11", 9);
        faultIs(c, "d12g1e11e10 e11", 13);
        faultIs(c, "d12g1e10e11", NONE);
    }

    private static void faultsOfEnds(Checks c) {
        says(c, "the TEXT's size, if its end comes too early,");
        faultIs(c, "d", 1);
        faultIs(c, "  d", 3);
        faultIs(c, "d1", 2);
        faultIs(c, "d7", 2);
        faultIs(c, "d12g", 4);
        faultIs(c, "d12g1h", 6);
        faultIs(c, "d12g1e", 6);
        faultIs(c, "d12g1e0", 7);
        faultIs(c, "d12g1e9", 7);
        says(c, "or there is no GUILD,");
        faultIs(c, "d12", 3);
        faultIs(c, "d12    ", 7);
        faultIs(c, " d60", 4);
        says(c, "or there are blanks alone).");
        faultIs(c, "", 0);
        faultIs(c, " ", 1);
        ClockFeet x = new ClockFeet();
        x.text(0, 60);
        c.is(x.fault(0), 60);
        x.text(0, 59);
        c.is(x.fault(0), 59);
    }

    private static void kinds(Checks c) {
        says(c, "KINDS of GUILDS and letters: 0 GUILD (g, 103),");
        kindIs(c, 103, 0);
        says(c, "1 HEAVY (h, 104; a GUILD),");
        kindIs(c, 104, 1);
        says(c, "2 CHILDREN (c, 99; a GUILD),");
        kindIs(c, 99, 2);
        says(c, "3 CATS (k, 107; a GUILD),");
        kindIs(c, 107, 3);
        says(c, "4 REGIMENT (r, 114; a HEAVY),");
        ClockFeet x = kindIs(c, 114, 4);
        c.is(x.mark(0, 1), 4);
        c.is(x.mark(0, 4), 4);
        c.is(x.count(7), 1);
        says(c, "5 TIPTOE (t, 116; a CHILDREN).");
        x = kindIs(c, 116, 5);
        c.is(x.mark(0, 2), 1);
        c.is(x.mark(0, 5), 4);
        c.is(x.count(7), 0);
    }

    /** A GUILD of 8 FEET of a letter, on a DIAL of 12. */
    private static ClockFeet kindIs(Checks c, int letter, int kind) {
        ClockFeet x = Halls.of("d12" + (char) letter + "8");
        c.tells(x, x.guild(0, 0), kind);
        for (int other = 1; other <= 5; other++) {
            boolean is = other == kind || other == 1 && kind == 4 || other == 2 && kind == 5;
            c.is(x.mark(0, other) == ClockFeet.FINDING ? 0 : 1, is ? 1 : 0);
        }
        return x;
    }

    private static void walksAre(Checks c, char letter, int... due) {
        for (int feet = 1; feet <= 9; feet++) {
            ClockFeet x = Halls.of("d60" + letter + feet);
            c.is(x.walk(0), due[feet - 1]);
            c.is(Halls.detail(x, 0, 2), due[feet - 1]);
        }
    }

    private static void treads(Checks c) {
        says(c, "A GUILD that walks turns the DIAL on by its TREAD: as many TEETH as FEET;");
        walksAre(c, 'g', 1, 2, 3, 4, 5, 6, 7, 8, 9);
        says(c, "a HEAVY one (REGIMENT, too) twice that;");
        walksAre(c, 'h', 2, 4, 6, 8, 10, 12, 14, 16, 18);
        c.is(Halls.of("d12 r1").walk(0), 2);
        says(c, "a REGIMENT, of which two FEET at once count one, half of its FEET (cut) less;");
        walksAre(c, 'r', 2, 3, 5, 6, 8, 9, 11, 12, 14);
        says(c, "CHILDREN (TIPTOE, too) 1 less than FEET;");
        walksAre(c, 'c', 0, 1, 2, 3, 4, 5, 6, 7, 8);
        c.is(Halls.of("d12 t1").walk(0), 0);
        c.is(Halls.of("d12 t3").walk(0), 1);
        says(c, "TIPTOE half of that (cut);");
        walksAre(c, 't', 0, 0, 1, 1, 2, 2, 3, 3, 4);
        says(c, "CATS none.");
        walksAre(c, 'k', 0, 0, 0, 0, 0, 0, 0, 0, 0);
    }

    private static void floors(Checks c) {
        says(c, "On a CARPET (FLOOR 1; 0 is bare) it is half of all that, cut;");
        int[][] carpet = {
            {0, 1, 1, 2, 2, 3, 3, 4, 4},
            {1, 2, 3, 4, 5, 6, 7, 8, 9},
            {0, 0, 1, 1, 2, 2, 3, 3, 4},
            {0, 0, 0, 0, 0, 0, 0, 0, 0},
            {1, 1, 2, 3, 4, 4, 5, 6, 7},
            {0, 0, 0, 0, 1, 1, 1, 1, 2}};
        for (int kind = 0; kind < 6; kind++) {
            for (int feet = 1; feet <= 9; feet++) {
                ClockFeet x = Halls.of("d60" + "ghckrt".charAt(kind) + feet);
                int bare = Halls.detail(x, 0, 2);
                x.floor(1);
                c.is(x.walk(0), carpet[kind][feet - 1]);
                x.floor(0);
                c.is(x.walk(0), carpet[kind][feet - 1] + bare);
            }
        }
        says(c, "under SNOW (2) none.");
        for (int kind = 0; kind < 6; kind++) {
            ClockFeet x = Halls.of("d60" + "ghckrt".charAt(kind) + 9);
            x.floor(2);
            c.is(x.walk(0), 0);
            c.tells(x, x.guild(0, 2), 0);
            c.is(x.count(3), 0);
        }
    }

    private static void dial(Checks c) {
        says(c, "The DIAL is at TOOTH 0 (NOON) at first;");
        ClockFeet x = Halls.of("d12 g1 h6 h9");
        c.is(x.count(2), 0);
        c.is(x.count(3), 0);
        says(c, "behind the last TOOTH it is 0 again (a ROUND more).");
        for (int tooth = 1; tooth <= 11; tooth++) {
            c.is(x.walk(0), tooth);
            c.is(x.count(3), 0);
        }
        c.is(x.walk(0), 0);
        c.is(x.count(3), 1);
        c.is(x.walk(1), 0);
        c.is(x.count(3), 2);
        c.is(x.walk(2), 6);
        c.is(x.count(3), 3);
        c.is(x.walk(2), 0);
        c.is(x.count(3), 5);
        ClockFeet sixty = Halls.of("d60 g9 h8 g5");
        Halls.walk(sixty, 1, 1, 1);
        c.is(sixty.walk(0), 57);
        c.is(sixty.walk(0), 6);
        c.is(sixty.count(3), 1);
        Halls.walk(sixty, 0, 0, 0, 0, 0);
        c.is(sixty.count(2), 51);
        c.is(sixty.walk(0), 0);
        c.is(sixty.count(3), 2);
        says(c, "The HOUR is 12 times the TOOTH by TEETH, cut.");
        for (int teeth = 12; teeth <= 60; teeth += 16) {
            ClockFeet each = Halls.of("d" + teeth + " g1");
            for (int tooth = 0; tooth < teeth; tooth++) {
                c.is(each.hour(), tooth * 12 / teeth);
                each.walk(0);
            }
            c.is(each.hour(), 0);
        }
        ClockFeet odd = Halls.of("d59 g4 g1");
        odd.walk(0);
        c.is(odd.hour(), 0);
        odd.walk(1);
        c.is(odd.hour(), 1);
        ClockFeet last = Halls.of("d13 h6");
        last.walk(0);
        c.is(last.hour(), 11);
        says(c, "FLOOR 0 is at first.");
        c.is(odd.count(5), 0);
        c.is(Halls.of("d12 g1").floor(0), STATE);
        c.is(Halls.of("d12 g1").floor(1), 0);
    }

    private static void rents(Checks c) {
        says(c, "A RENT falls DUE, if a walk ends at its TOOTH");
        ClockFeet x = Halls.of("d12 g2 g5 k1 e02 e07 e11");
        x.walk(1);
        c.is(x.due(), 0);
        x.walk(0);
        c.is(x.due(), 1);
        x.undo(0);
        x.walk(0);
        c.is(x.due(), 1);
        x.walk(1);
        c.is(x.due(), 2);
        Halls.walk(x, 0, 0);
        c.is(x.count(2), 11);
        c.is(x.due(), 3);
        x.walk(1);
        c.is(x.due(), 3);
        says(c, "(also a walk of no TEETH).");
        x.undo(1);
        x.walk(2);
        c.is(x.due(), 2);
        x.floor(2);
        c.is(x.due(), 2);
        x.walk(1);
        c.is(x.due(), 3);
        Halls.walk(x, 2, 2);
        c.is(x.due(), 5);
        x.undo(0);
        x.walk(2);
        c.is(x.due(), 0);
    }

    private static void steps(Checks c) {
        says(c, "STEPS are GUILDS that walk, FLOORS (60 at most).");
        ClockFeet x = Halls.of("d12 g1 k1");
        for (int i = 0; i < 29; i++) {
            x.walk(i % 2);
            c.is(x.floor(i % 2 == 0 ? 1 : 0) >= 0 ? 1 : 0, 1);
            c.is(x.count(4), 2 * i + 2);
        }
        x.walk(1);
        c.is(x.count(4), 59);
        c.is(x.floor(2), 1);
        c.is(x.count(4), 60);
        c.is(x.walk(0), FULL);
        c.is(x.floor(0), FULL);
        c.is(x.lots(1, 1), FULL);
        c.is(x.count(4), 60);
        x.undo(59);
        c.is(x.walk(1), x.count(2));
        c.is(x.count(4), 60);
    }

    private static void orders(Checks c) {
        says(c, "An ORDER is all GUILDS, each once, walking one behind the other from now on (the FLOOR as it is).");
        ClockFeet x = Halls.of("d12 g2 h4 k1 e10");
        c.told(x, x.cheap(), 1, (0 * 6 + 2) * 6 + 1);
        x.walk(0);
        c.told(x, x.cheap(), 0, (0 * 6 + 1) * 6 + 2);
        x.floor(1);
        c.told(x, x.cheap(), 0, 8);
        c.is(x.order(1, 7, 0), 1);
        c.same(Halls.cells(x, 0), "0 1 2");
        c.is(x.order(1, 6, 0), 0);
        c.same(Halls.cells(x, 0), "1 0 2");
        x.floor(2);
        c.is(x.order(1, 2, 0), 1);
        c.same(Halls.cells(x, 0), "0 1 2");
        c.is(x.order(1, 6, 0), NONE);
        says(c, "ORDERS go by their numbers, the first ones first.");
        ClockFeet six = Halls.of("d60 g1 g1 g1 g1 g1 g1");
        c.is(six.order(5, 6, 0), 5);
        c.same(Halls.cells(six, 0), "0 1 2 3 4 5");
        c.is(six.order(5, 5, 0), 4);
        c.same(Halls.cells(six, 0), "0 1 2 3 5 4");
        c.is(six.order(0, 6, 0), 5);
        c.same(Halls.cells(six, 0), "1 2 3 4 5 0");
        c.is(six.order(2, 1, 0), 0);
        c.same(Halls.cells(six, 0), "2 0 1 3 4 5");
    }
}

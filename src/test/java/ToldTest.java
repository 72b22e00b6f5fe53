/** Promises 39 to 45: what is told. */
final class ToldTest {
    private static final int NOTHING = 1, BEYOND = 2, UNLIKE = 3, NOUGHT = 4, SIZE = 5;

    private ToldTest() {
    }

    static void run(Checks c) {
        asked(c);
        askedStays(c);
        ratios(c);
        count(c);
        findings(c);
        digestOfNothing(c);
        digest(c);
    }

    private static void asked(Checks c) {
        c.promise(39);
        ClockFeet x = new ClockFeet();
        c.is(x.asked(), 0);
        x.row(0, 3);
        x.lay(0, 1, 8);
        c.is(x.asked(), 0);
        x.lay(0, 1, 9);
        c.is(x.asked(), 8);
        x.at(0, 1);
        c.is(x.asked(), 9);
        x.mean(0);
        c.is(x.asked(), 3);
        Halls.write(x, 0, "d12 g5 g3 k2 e08");
        x.hall(0);
        c.is(x.asked(), 3);
        x.guild(0, 3);
        c.is(x.asked(), 5);
        x.hour();
        c.is(x.asked(), 0);
        Halls.walk(x, 0, 1);
        c.is(x.asked(), 0);
        x.due();
        c.is(x.asked(), 1);
        Halls.fill(x, 0, 2, 2);
        x.after(0);
        c.is(x.asked(), 2);
        x.quiet();
        c.is(x.asked(), 7);
        x.cheap();
        c.is(x.asked(), 0 * 36 + 1 * 6 + 2);
        x.fewest(1);
        c.is(x.asked(), 0);
        x.never();
        c.is(x.asked(), ClockFeet.NONE);
        x.fits(3);
        c.is(x.asked(), 2);
        x.sure(5);
        c.is(x.asked(), 2);
        x.ask(8);
        c.is(x.asked(), 1);
        x.rent(1);
        c.is(x.asked(), 12);
        x.both(0, 12, 8);
        c.is(x.asked(), 4);
        x.both(1, 12, 8);
        c.is(x.asked(), 4);
    }

    private static void askedStays(Checks c) {
        c.promise(39);
        ClockFeet x = Halls.of("d12 g4 t9 e04");
        x.row(0, 1);
        x.lay(0, 0, 55);
        x.at(0, 0);
        x.row(0, 1);
        x.text(1, 1);
        x.put(1, 0, 3);
        x.fault(0);
        x.mark(1, 5);
        x.shoe(0, 4);
        x.walk(0);
        x.floor(1);
        x.undo(1);
        x.keep(0);
        x.on(0);
        x.pace();
        x.order(0, 4, 1);
        x.feet(8);
        x.keyed();
        x.noon(0);
        x.odds(4, 1);
        x.lots(2, 2);
        x.upper();
        x.lower();
        x.count(2);
        x.finding();
        x.findings(1);
        x.digest();
        x.copy(0, 0, 0, 0, 1);
        x.tear(0);
        c.is(x.asked(), 55);
        x.undo(0);
        x.at(0, 0);
        x.lay(0, 0, 1);
        x.mean(0);
        x.guild(2, 0);
        x.after(0);
        x.fewest(1);
        x.fits(12);
        x.sure(1);
        x.ask(1);
        x.both(0, 13, 13);
        x.rent(2);
        c.is(x.asked(), 55);
    }

    private static void ratios(Checks c) {
        ClockFeet x = Halls.of("d12 g4 g2");
        c.promise(40);
        c.is(x.upper(), 0);
        c.promise(41);
        c.is(x.lower(), 1);
        x.odds(4, 1);
        c.promise(40);
        c.is(x.upper(), 1);
        c.promise(41);
        c.is(x.lower(), 2);
        x.pace();
        x.odds(12, 1);
        x.sure(3);
        x.cheap();
        x.walk(0);
        c.is(x.lower(), 2);
        c.promise(40);
        c.is(x.upper(), 1);
        Halls.walk(x, 1, 1);
        x.pace();
        c.is(x.upper(), 8);
        c.promise(41);
        c.is(x.lower(), 3);
        x.quiet();
        c.is(x.lower(), 1);
        c.promise(40);
        c.is(x.upper(), 2);
        x.fits(3);
        c.is(x.upper(), 0);
        Halls.write(x, 1, "d13 g1");
        x.odds(4, 1);
        x.hall(1);
        c.is(x.upper(), 0);
        c.promise(41);
        c.is(x.lower(), 1);
    }

    private static void countsAre(Checks c, ClockFeet x, int... due) {
        for (int what = 0; what < due.length; what++) {
            c.is(x.count(what), due[what]);
        }
    }

    private static void count(Checks c) {
        c.promise(42);
        ClockFeet x = new ClockFeet();
        countsAre(c, x, 0, 0, 0, 0, 0, 0, 0, 0, 0, 0, 0);
        Halls.write(x, 3, "d12 g9 h1 r2 c3 t4 e03 e04");
        x.hall(3);
        countsAre(c, x, 5, 12, 0, 0, 0, 0, 2, 2, 0, 1, 0);
        Halls.walk(x, 0, 0);
        x.floor(2);
        x.keep(1);
        x.row(2, 0);
        x.row(5, 7);
        x.text(0, 0);
        countsAre(c, x, 5, 12, 6, 1, 3, 2, 2, 2, 2, 2, 1);
        x.tear(2);
        x.keep(1);
        x.keep(0);
        countsAre(c, x, 5, 12, 6, 1, 3, 2, 2, 2, 1, 2, 2);
        c.is(x.count(11), ClockFeet.BAD);
        c.is(x.count(-1), ClockFeet.BAD);
    }

    private static void findings(Checks c) {
        c.promise(43);
        ClockFeet x = new ClockFeet();
        c.is(x.finding(), 0);
        x.row(9, 9);
        x.hour();
        c.is(x.finding(), 0);
        x.row(0, -1);
        c.is(x.finding(), SIZE);
        x.at(0, 0);
        c.is(x.finding(), NOTHING);
        x.at(1, 0);
        x.row(0, 0);
        c.is(x.finding(), NOTHING);
        x.at(0, 0);
        c.is(x.finding(), BEYOND);
        x.mean(0);
        c.is(x.finding(), NOUGHT);
        x.pace();
        Halls.write(x, 0, "d12g1");
        x.hall(0);
        c.is(x.finding(), NOUGHT);
        x.mark(0, 3);
        c.is(x.finding(), UNLIKE);
        x.mark(0, 9);
        c.is(x.finding(), UNLIKE);
        c.promise(44);
        c.is(x.findings(NOTHING), 2);
        c.is(x.findings(BEYOND), 1);
        c.is(x.findings(UNLIKE), 1);
        c.is(x.findings(NOUGHT), 2);
        c.is(x.findings(SIZE), 1);
        c.is(x.findings(0), ClockFeet.BAD);
        c.is(x.findings(6), ClockFeet.BAD);
        c.is(x.findings(-1), ClockFeet.BAD);
        c.is(x.finding(), UNLIKE);
    }

    private static long fold(long h, long... values) {
        for (long v : values) {
            h = 31 * h + v;
        }
        return h;
    }

    private static void digestOfNothing(Checks c) {
        c.promise(45);
        long h = fold(17, 0, 0, 0, 0, 0, 0, 0, 0, 0, 0, 0, 0);
        h = fold(h, -1, -1, -1, -1, -1, -1, -1, -1, -1, -1, -1, -1, -1);
        c.is(new ClockFeet().digest(), h);
    }

    private static void digest(Checks c) {
        c.promise(45);
        ClockFeet x = Halls.of("d12 r9 k2 e02");
        Halls.walk(x, 0, 1);
        x.keep(2);
        x.floor(1);
        Halls.fill(x, 1, -5, 6);
        x.row(4, 0);
        x.text(3, 2);
        x.put(3, 1, 200);
        x.text(0, 1);
        x.at(1, 1);
        long h = fold(17, 2, 12, 2, 1, 3, 1, 1, 1, 2, 2, 1);
        h = fold(h, 2);
        h = fold(h, 4, 9, 7, 14, 1);
        h = fold(h, 3, 2, 0, 0, 1);
        h = fold(h, -1, -1, 2);
        h = fold(h, -1, 2, -5, 6, -1, -1, 0, -1);
        h = fold(h, 1, 32, -1, -1, 2, 32, -56);
        c.is(x.digest(), h);
        c.is(x.asked(), 6);
        c.is(x.digest(), h);
        x.lay(1, 0, 7);
        c.is(x.digest() == h ? 1 : 0, 0);
    }
}

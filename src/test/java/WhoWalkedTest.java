/** Promises 31 to 33: who had walked. */
final class WhoWalkedTest {
    private static final int NOUGHT = 4;

    private WhoWalkedTest() {
    }

    static void run(Checks c) {
        fits(c);
        sure(c);
        ask(c);
    }

    private static void fitsIs(Checks c, ClockFeet x, int n, int number, int first) {
        c.tells(x, x.fits(n), first);
        c.is(x.upper(), number);
        c.is(x.lower(), 1);
    }

    private static void fits(Checks c) {
        c.promise(31);
        ClockFeet x = Halls.of("d12 g1 g2 g3");
        Halls.walk(x, 0, 1);
        x.pace();
        fitsIs(c, x, 3, 2, 3);
        fitsIs(c, x, 6, 1, 7);
        fitsIs(c, x, 0, 1, 0);
        fitsIs(c, x, 4, 1, 5);
        fitsIs(c, x, 7, 0, ClockFeet.NONE);
        c.is(x.count(4), 2);
        ClockFeet rounds = Halls.of("d12 h6 g1");
        fitsIs(c, rounds, 0, 2, 0);
        fitsIs(c, rounds, 1, 2, 2);
        ClockFeet carpet = Halls.of("d12 g4 g2");
        carpet.floor(1);
        fitsIs(c, carpet, 1, 1, 2);
        fitsIs(c, carpet, 4, 0, ClockFeet.NONE);
        carpet.floor(2);
        fitsIs(c, carpet, 0, 4, 0);
        c.is(x.fits(12), ClockFeet.BAD);
        c.is(x.fits(-1), ClockFeet.BAD);
        c.is(x.asked(), ClockFeet.NONE);
        c.is(new ClockFeet().fits(0), ClockFeet.BAD);
    }

    private static void sure(Checks c) {
        c.promise(32);
        ClockFeet x = Halls.of("d12 g1 g2 g3");
        c.is(x.sure(3), 0);
        c.is(x.asked(), 0);
        c.is(x.sure(6), 7);
        c.is(x.asked(), 0);
        c.is(x.sure(0), 0);
        c.is(x.asked(), 7);
        c.is(x.sure(5), 6);
        c.is(x.asked(), 1);
        c.finds(x, x.sure(7), NOUGHT);
        c.is(x.asked(), 1);
        c.is(x.sure(12), ClockFeet.BAD);
        c.is(x.sure(-1), ClockFeet.BAD);
        ClockFeet cats = Halls.of("d12 g6 g1 k1");
        c.is(cats.sure(6), 1);
        c.is(cats.asked(), 2);
        cats.walk(0);
        c.is(cats.sure(6), 1);
        c.is(new ClockFeet().sure(0), ClockFeet.BAD);
    }

    private static void ask(Checks c) {
        c.promise(33);
        ClockFeet x = Halls.of("d12 g1 g2 g3");
        c.is(x.ask(3), 0);
        c.is(x.asked(), 1);
        c.is(x.ask(0), 0);
        c.is(x.asked(), 1);
        c.finds(x, x.ask(7), NOUGHT);
        c.is(x.ask(12), ClockFeet.BAD);
        c.is(x.ask(-1), ClockFeet.BAD);
        c.is(x.asked(), 1);
        ClockFeet cats = Halls.of("d12 g6 g1 k1");
        c.is(cats.ask(6), 2);
        c.is(cats.asked(), 1);
        cats.floor(2);
        c.is(cats.ask(0), 0);
        c.is(cats.asked(), 4);
        ClockFeet three = Halls.of("d12 g5 g1 g1 g1");
        c.is(three.ask(1), 1);
        c.is(three.asked(), 2);
        c.is(three.ask(2), 1);
        c.is(three.asked(), 2);
        c.is(new ClockFeet().ask(0), ClockFeet.BAD);
    }
}

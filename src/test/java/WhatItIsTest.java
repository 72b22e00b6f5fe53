import java.lang.reflect.Method;
import java.lang.reflect.Modifier;

/** What the document says ahead of its promises ("What it is") and behind them ("Not promised"). */
final class WhatItIsTest {
    private static final int NONE = ClockFeet.NONE, STATE = ClockFeet.STATE;

    private WhatItIsTest() {
    }

    static void run(Checks c) {
        woundByFeet(c);
        dialAndGuilds(c);
        rentsAndFloors(c);
        language(c);
        steps(c);
        howLate(c);
        orders(c);
        whatCanBeHad(c);
        whoHadWalked(c);
        againAndAgain(c);
        chances(c);
        keptHalls(c);
        latestCall(c);
        notPromised(c);
    }

    private static void says(Checks c, String words) {
        c.sentence(Document.WHAT_IT_IS, words);
    }

    private static void woundByFeet(Checks c) {
        says(c, "Wound by feet: the town hall clock goes by who walks over its floor, each foot a tooth, by weight, so market "
            + "days have thirty hours and Sundays three;");
        ClockFeet market = Halls.of("d12 g5 h5 c4");
        c.is(market.count(2), 0);
        c.is(market.walk(0), 5);
        market.undo(0);
        Halls.walk(market, 1, 1, 1);
        c.is(market.hour(), 6);
        c.is(12 * market.count(3) + market.hour(), 30);
        ClockFeet sunday = Halls.of("d12 g5 h5 c4");
        sunday.walk(2);
        c.is(12 * sunday.count(3) + sunday.hour(), 3);
    }

    private static void dialAndGuilds(Checks c) {
        says(c, "a dial of teeth,");
        ClockFeet dial = Halls.of("d24 g1");
        c.is(dial.count(1), 24);
        for (int tooth = 1; tooth < 24; tooth++) {
            c.is(dial.walk(0), tooth);
        }
        c.is(dial.count(3), 0);
        c.is(dial.walk(0), 0);
        c.is(dial.count(3), 1);
        says(c, "guilds of kinds (heavy ones, children, cats, regiments, old people on tiptoe) with feet,");
        ClockFeet x = Halls.of("d60 g9 h9 c9 k9 r9 t9");
        int[] treads = {9, 18, 8, 0, 14, 4};
        for (int g = 0; g < 6; g++) {
            c.tells(x, x.guild(g, 0), g);
            c.tells(x, x.guild(g, 1), 9);
            c.tells(x, x.guild(g, 2), treads[g]);
        }
    }

    private static void rentsAndFloors(Checks c) {
        says(c, "rents due at teeth,");
        ClockFeet rents = Halls.of("d12 g5 e05 e11");
        c.is(rents.count(6), 2);
        rents.walk(0);
        c.told(rents, rents.due(), 1, 1);
        rents.walk(0);
        c.told(rents, rents.due(), 1, 0);
        says(c, "a floor that is bare, carpeted or under snow,");
        ClockFeet x = Halls.of("d12 g5");
        c.is(x.walk(0), 5);
        c.is(x.floor(1), 0);
        c.is(x.walk(0), 7);
        c.is(x.floor(2), 1);
        c.is(x.walk(0), 7);
        c.is(x.floor(0), 2);
        c.is(x.walk(0), 0);
    }

    private static void language(Checks c) {
        says(c, "in a small language;");
        ClockFeet x = new ClockFeet();
        Halls.write(x, 1, "  d36 k2 t7   e35");
        c.is(x.fault(1), NONE);
        c.is(x.hall(1), 2);
        Halls.write(x, 1, "  d36 k2 q7   e35");
        c.is(x.fault(1), 9);
        c.is(x.hall(1), STATE);
    }

    private static void steps(Checks c) {
        says(c, "guilds that walk, floors, undone;");
        ClockFeet x = Halls.of("d12 g5");
        x.walk(0);
        x.floor(1);
        c.is(x.walk(0), 7);
        c.is(x.undo(1), 2);
        c.is(x.count(2), 5);
        c.is(x.count(5), 0);
        c.is(x.undo(0), 1);
        c.is(x.count(2), 0);
    }

    private static void howLate(Checks c) {
        says(c, "how late it is by who has been in, rounds, noons, rents that fell due;");
        ClockFeet x = Halls.of("d24 g9 h8 e01");
        x.walk(0);
        c.told(x, x.hour(), 4, 0);
        Halls.fill(x, 0, 1, 0);
        c.told(x, x.after(0), 10, 1);
        x.walk(1);
        c.told(x, x.hour(), 0, 1);
        c.told(x, x.due(), 1, 1);
        c.is(x.noon(0), NONE);
        c.ratio(x, x.pace(), 25, 2);
    }

    private static void orders(Checks c) {
        says(c, "in what order all guilds should come so that it is a told tooth behind a told one and no rent falls due, "
            + "in how many, which is last;");
        ClockFeet x = Halls.of("d12 g5 h2 e05");
        c.is(x.order(0, 9, 0), 1);
        c.same(Halls.cells(x, 0), "1 0");
        c.is(x.order(1, 9, 0), NONE);
        c.ratio(x, x.quiet(), 1, 1);
        c.is(x.asked(), 1);
        c.told(x, x.cheap(), 0, 6);
    }

    private static void whatCanBeHad(Checks c) {
        says(c, "the fewest walks for a tooth, teeth that can't be had;");
        ClockFeet x = Halls.of("d12 g4 g6");
        c.told(x, x.fewest(10), 2, 0);
        c.is(x.fewest(1), NONE);
        c.told(x, x.never(), 6, 1);
    }

    private static void whoHadWalked(Checks c) {
        says(c, "who had walked by how far the clock went: all that fit, who is sure, the fewest feet;");
        ClockFeet x = Halls.of("d12 g4 g6 g2");
        c.ratio(x, x.fits(6), 2, 1);
        c.is(x.asked(), 2);
        c.told(x, x.sure(10), 3, 4);
        c.told(x, x.ask(6), 0, 1);
        c.is(x.feet(10), 10);
        says(c, "which guild to keep out;");
        c.is(Halls.of("d12 g4 g2").keyed(), 2);
        c.is(Halls.of("d12 g4 g3").keyed(), 3);
    }

    private static void againAndAgain(Checks c) {
        says(c, "one guild that walks again and again: when noon falls, when two villages' clocks strike together, never;");
        ClockFeet x = Halls.of("d12 g5 g4 e05");
        c.is(x.noon(1), 3);
        c.told(x, x.both(0, 15, 0), 12, 5);
        c.is(x.both(1, 14, 1), NONE);
        c.told(x, x.rent(0), 1, 5);
        x.walk(0);
        c.is(x.noon(0), 11);
        c.is(x.noon(1), NONE);
    }

    private static void chances(Checks c) {
        says(c, "chances by whoever comes, days by lots;");
        ClockFeet x = Halls.of("d12 g1 g2");
        c.ratio(x, x.odds(3, 2), 1, 2);
        c.is(x.lots(1, 1), 1);
        c.is(x.count(4), 1);
    }

    private static void keptHalls(Checks c) {
        says(c, "halls kept, gone on from.");
        ClockFeet x = Halls.of("d12 g5");
        x.walk(0);
        c.is(x.keep(1), 1);
        c.is(x.walk(0), 10);
        c.is(x.on(1), 1);
        c.is(x.count(2), 5);
        c.is(x.walk(0), 10);
    }

    private static void latestCall(Checks c) {
        says(c, "An object is used for at most 512 calls after it has been made; what later calls answer is free.");
        ClockFeet x = new ClockFeet();
        Halls.write(x, 0, "d12g1");
        x.hall(0);
        for (int call = 8; call <= 511; call++) {
            c.is(x.count(1), 12);
        }
        c.is(x.walk(0), 1);
    }

    private static void notPromised(Checks c) {
        c.sentence(Document.NOT_PROMISED, "How the state is held inside the object is free, as are the speed of each call, "
            + "the text of toString and the behaviour of equals and hashCode.");
        for (Method method : ClockFeet.class.getDeclaredMethods()) {
            String name = method.getName();
            c.is(name.equals("toString") || name.equals("equals") || name.equals("hashCode") ? 1 : 0, 0);
        }
        c.sentence(Document.NOT_PROMISED, "Use of one object from several threads at once is not promised to be safe.");
        for (Method method : ClockFeet.class.getDeclaredMethods()) {
            c.is(method.getModifiers() & Modifier.SYNCHRONIZED, 0);
        }
        c.sentence(Document.NOT_PROMISED, "Nothing is promised beyond the answers and state changes described above,");
        asksChangeNothing(c);
        c.sentence(Document.NOT_PROMISED, "and nothing about an object after its 512th call.");
        ClockFeet x = Halls.busy();
        for (int call = 0; call < 600; call++) {
            x.walk(call % 7);
            c.is(x.count(4) <= 60 ? 1 : 0, 1);
        }
    }

    /** No state change is described of the calls that ask: the digest stays. */
    private static void asksChangeNothing(Checks c) {
        ClockFeet x = Halls.busy();
        long h = x.digest();
        for (int g = 0; g < 6; g++) {
            x.guild(g, 2);
            x.mark(g, 1);
            x.noon(g);
            x.both(g, 14, g);
            x.rent(g);
        }
        for (int tooth = 0; tooth < 12; tooth++) {
            x.fewest(tooth);
            x.feet(tooth);
            x.fits(tooth);
            x.sure(tooth);
            x.ask(tooth);
            x.odds(tooth, 3);
        }
        x.quiet();
        x.cheap();
        x.never();
        x.keyed();
        x.after(0);
        x.hour();
        x.due();
        x.pace();
        x.at(2, 0);
        x.mean(2);
        x.fault(3);
        c.is(x.digest(), h);
    }
}

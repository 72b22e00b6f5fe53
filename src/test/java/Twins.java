import java.util.function.Supplier;
import java.util.function.ToIntFunction;

/** One of two objects that are alike is called; the other one tells what should be as it was. */
final class Twins {
    private Twins() {
    }

    /** A call that is refused, or answers NONE: it changes nothing at all. */
    static void changesNothing(Checks c, Supplier<ClockFeet> make, int answer, ToIntFunction<ClockFeet> call) {
        ClockFeet x = make.get();
        ClockFeet twin = make.get();
        c.is(call.applyAsInt(x), answer);
        c.same(findings(x), findings(twin));
        c.same(whole(x), whole(twin));
    }

    /** A call that is refused by a FINDING: it changes that one's number, and which is the latest. */
    static void finds(Checks c, Supplier<ClockFeet> make, int finding, ToIntFunction<ClockFeet> call) {
        ClockFeet x = make.get();
        ClockFeet twin = make.get();
        c.is(call.applyAsInt(x), ClockFeet.FINDING);
        c.is(x.finding(), finding);
        for (int f = 1; f <= 5; f++) {
            c.is(x.findings(f), twin.findings(f) + (f == finding ? 1 : 0));
        }
        c.same(whole(x), whole(twin));
    }

    /** A call that asks alone: what asked() tells may change then, nothing else. */
    static void asks(Checks c, Supplier<ClockFeet> make, ToIntFunction<ClockFeet> call) {
        ClockFeet x = make.get();
        ClockFeet twin = make.get();
        call.applyAsInt(x);
        c.same(findings(x), findings(twin));
        c.same(ratio(x), ratio(twin));
        c.same(state(x), state(twin));
    }

    /** A call that tells by upper(), lower() alone. */
    static void tellsRatio(Checks c, Supplier<ClockFeet> make, ToIntFunction<ClockFeet> call) {
        ClockFeet x = make.get();
        ClockFeet twin = make.get();
        call.applyAsInt(x);
        c.same(findings(x), findings(twin));
        c.is(x.asked(), twin.asked());
        c.same(state(x), state(twin));
    }

    /** A call that tells by asked(), and by upper() and lower(), too. */
    static void tellsBoth(Checks c, Supplier<ClockFeet> make, ToIntFunction<ClockFeet> call) {
        ClockFeet x = make.get();
        ClockFeet twin = make.get();
        call.applyAsInt(x);
        c.same(findings(x), findings(twin));
        c.same(state(x), state(twin));
    }

    private static String findings(ClockFeet x) {
        StringBuilder all = new StringBuilder("finding ").append(x.finding()).append(" of");
        for (int f = 1; f <= 5; f++) {
            all.append(' ').append(x.findings(f));
        }
        return all.toString();
    }

    /** All that can be told of an object but its FINDINGS. */
    private static String whole(ClockFeet x) {
        return "asked " + x.asked() + ", " + ratio(x) + state(x);
    }

    private static String ratio(ClockFeet x) {
        return "upper " + x.upper() + ", lower " + x.lower();
    }

    /** Looks at the HALL as it is and as it was kept; the object is used up by that. */
    private static String state(ClockFeet x) {
        StringBuilder all = new StringBuilder();
        hall(x, all.append("; now"));
        for (int k = 0; k < 3; k++) {
            all.append("; kept ").append(k).append(" on ").append(x.on(k));
            hall(x, all);
        }
        x.undo(0);
        for (int g = 0; g < x.count(0); g++) {
            all.append("; guild ").append(g);
            for (int feet = 1; feet <= 9; feet += 4) {
                all.append(" was ").append(x.shoe(g, feet)).append(" to ").append(x.walk(g));
                all.append(" rents ").append(x.rent(g)).append(' ').append(x.due());
                x.undo(0);
            }
        }
        return all.toString();
    }

    private static void hall(ClockFeet x, StringBuilder all) {
        all.append(" digest ").append(x.digest());
        all.append(" due ").append(x.due()).append(' ').append(x.asked());
        all.append(" hour ").append(x.hour()).append(' ').append(x.asked());
        all.append(" pace ").append(x.pace()).append(' ').append(x.upper()).append('/').append(x.lower());
        all.append(" quiet ").append(x.quiet()).append(' ').append(x.upper()).append(' ').append(x.asked());
        all.append(" cheap ").append(x.cheap()).append(' ').append(x.asked());
        for (int tooth = 0; tooth < x.count(1); tooth++) {
            all.append(' ').append(x.fewest(tooth)).append(' ').append(x.feet(tooth));
        }
    }
}

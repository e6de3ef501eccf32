import java.util.function.Supplier;
import java.util.function.ToIntFunction;

/**
 * "A call that returns an error or NONE changes nothing": neither the state, nor the history, the snapshot or
 * the text. What only tells something changes nothing either.
 */
public final class RefusedTest {
    private static final int UNKNOWN = SiltedFloats.UNKNOWN;
    private static final int BAD_VALUE = SiltedFloats.BAD_VALUE;
    private static final int FULL = SiltedFloats.FULL;
    private static final int NOT_POSSIBLE = SiltedFloats.NOT_POSSIBLE;
    private static final int NONE = SiltedFloats.NONE;

    public static void main(String[] args) {
        Checks.said("UNKNOWN changes nothing", RefusedTest::unknown);
        Checks.said("BAD_VALUE changes nothing", RefusedTest::badValue);
        Checks.said("FULL changes nothing", RefusedTest::full);
        Checks.said("NOT_POSSIBLE changes nothing", RefusedTest::notPossible);
        Checks.said("NONE changes nothing", RefusedTest::none);
        Checks.said("a fault of the text changes nothing", RefusedTest::faults);
        Checks.said("what only tells something changes nothing", RefusedTest::tells);
        Checks.end();
    }

    private static void refused(String call, Supplier<Floats> made, ToIntFunction<SiltedFloats> refused, int want) {
        Floats x = made.get();
        String before = x.told();
        Checks.due(call, x.act(refused), want);
        Checks.due("what is told behind " + call, x.told(), before);
    }

    private static void refused(String call, ToIntFunction<SiltedFloats> refused, int want) {
        refused(call, Rich::floats, refused, want);
    }

    /** At the hour 0, with other numbers than at first, a full history, a snapshot and a text. */
    private static Floats early() {
        Floats x = new Floats();
        x.setRate(1, true, 2);
        x.setWave(2, 70, 7, 3);
        x.keep();
        x.setWave(1, 300, 17, 2);
        x.setStation(2, 5, 80, -9);
        x.setRate(0, false, 1);
        x.turn(1, false);
        x.write("x0;p4");
        return x;
    }

    private static void unknown() {
        refused("setWave(3, 1, 2, 3)", RefusedTest::early, f -> f.setWave(3, 1, 2, 3), UNKNOWN);
        refused("setWave(-1, 1, 2, 3)", RefusedTest::early, f -> f.setWave(-1, 1, 2, 3), UNKNOWN);
        refused("setStation(3, 1, 20, 3)", RefusedTest::early, f -> f.setStation(3, 1, 20, 3), UNKNOWN);
        refused("setStation(-1, 1, 20, 3)", RefusedTest::early, f -> f.setStation(-1, 1, 20, 3), UNKNOWN);
        for (int s = -1; s <= 3; s += 4) {
            int none = s;
            refused("setRate of the station " + s, f -> f.setRate(none, true, 5), UNKNOWN);
            refused("turn of the station " + s, f -> f.turn(none, false), UNKNOWN);
            refused("clean of the station " + s, f -> f.clean(none), UNKNOWN);
            refused("level of the station " + s, f -> f.level(none), UNKNOWN);
            refused("mend of the station " + s, f -> f.mend(none, 0, 1, 0), UNKNOWN);
            refused("mend by the station " + s, f -> f.mend(0, 0, none, 0), UNKNOWN);
            refused("forget of the station " + s, f -> f.forget(none), UNKNOWN);
        }
        refused("mend(0, 2, 1, 0)", f -> f.mend(0, 2, 1, 0), UNKNOWN);
        refused("mend(0, -1, 1, 0)", f -> f.mend(0, -1, 1, 0), UNKNOWN);
    }

    private static void badValue() {
        refused("setWave(1, 3001, 2, 3)", RefusedTest::early, f -> f.setWave(1, 3001, 2, 3), BAD_VALUE);
        refused("setWave(1, 5, 49, 3)", RefusedTest::early, f -> f.setWave(1, 5, 49, 3), BAD_VALUE);
        refused("setWave(1, 5, 2, 48)", RefusedTest::early, f -> f.setWave(1, 5, 2, 48), BAD_VALUE);
        refused("setStation(1, 13, 20, 3)", RefusedTest::early, f -> f.setStation(1, 13, 20, 3), BAD_VALUE);
        refused("setStation(1, 1, 201, 3)", RefusedTest::early, f -> f.setStation(1, 1, 201, 3), BAD_VALUE);
        refused("setStation(1, 1, 20, 2001)", RefusedTest::early, f -> f.setStation(1, 1, 20, 2001), BAD_VALUE);
        refused("setRate(0, true, 21)", f -> f.setRate(0, true, 21), BAD_VALUE);
        refused("setRate(0, false, -1)", f -> f.setRate(0, false, -1), BAD_VALUE);
        refused("pass(0)", f -> f.pass(0), BAD_VALUE);
        refused("pass(-1)", f -> f.pass(-1), BAD_VALUE);
        refused("pass(121)", f -> f.pass(121), BAD_VALUE);
        refused("mend(0, 1, 1, 13)", f -> f.mend(0, 1, 1, 13), BAD_VALUE);
        refused("mend(0, 1, 1, -13)", f -> f.mend(0, 1, 1, -13), BAD_VALUE);
        refused("mend(0, 1, 0, 0)", f -> f.mend(0, 1, 0, 0), BAD_VALUE);
    }

    private static Floats withText(String text) {
        Floats x = Rich.floats();
        x.write(text);
        return x;
    }

    private static void full() {
        refused("pass(104)", f -> f.pass(104), FULL);
        refused("pass(120)", f -> f.pass(120), FULL);
        refused("too many hours in the first order", () -> withText("p99;p6;x1"), f -> f.follow(), FULL);
        refused("too many hours in the last order", () -> withText("x1;c0;l0;p50;o2;p50;l2;p4"), f -> f.follow(), FULL);
        refused("a text of 60 characters", () -> withText("l0;".repeat(19) + "x0;"), f -> f.type('x'), FULL);
        refused("another one of 60 characters", () -> withText("l0;".repeat(19) + "p10"), f -> f.type('p'), FULL);
    }

    private static void notPossible() {
        refused("setWave(0, 5, 5, 5)", f -> f.setWave(0, 5, 5, 5), NOT_POSSIBLE);
        refused("setWave, where it is so", f -> f.setWave(1, 300, 17, 2), NOT_POSSIBLE);
        refused("setStation(0, 5, 50, 5)", f -> f.setStation(0, 5, 50, 5), NOT_POSSIBLE);
        refused("setStation, where it is so", f -> f.setStation(0, 0, 100, 0), NOT_POSSIBLE);
        refused("mend of a gap that is no inner one", f -> f.mend(2, 0, 0, 0), NOT_POSSIBLE);
        refused("mend by a station that is off", f -> f.mend(0, 1, 1, 0), NOT_POSSIBLE);
        refused("mend by a station that is off, of a mended gap", f -> f.mend(0, 0, 1, 3), NOT_POSSIBLE);
        refused("mend by hours below 0", f -> f.mend(0, 0, 1, -4), NOT_POSSIBLE);
        refused("mend by hours to come", f -> f.mend(0, 1, 1, 5), NOT_POSSIBLE);
    }

    private static void none() {
        refused("setWave, where it is so", RefusedTest::early, f -> f.setWave(1, 300, 17, 2), NONE);
        refused("setStation, where it is so", RefusedTest::early, f -> f.setStation(2, 5, 80, -9), NONE);
        refused("level at the hour 0", RefusedTest::early, f -> f.level(1), NONE);
        refused("the sinking, where it is so", f -> f.setRate(0, true, 2), NONE);
        refused("the silting, where it is so", f -> f.setRate(0, false, 3), NONE);
        refused("turn on, where it is so", f -> f.turn(0, true), NONE);
        refused("turn off, where it is so", f -> f.turn(2, false), NONE);
        refused("clean, without silt", f -> f.clean(1), NONE);
        refused("level, where it is noted", f -> f.level(1), NONE);
        refused("forget, where none was mended", f -> f.forget(1), NONE);
        refused("undo of an empty history", () -> typed(""), f -> f.undo(), NONE);
        refused("restore without a snapshot", () -> typed("x0;p3"), f -> f.restore(), NONE);
    }

    private static Floats typed(String text) {
        Floats x = new Floats();
        x.write(text);
        return x;
    }

    private static void faults() {
        refused("the empty text", () -> withText(""), f -> f.follow(), -100);
        refused("a fault at the start", () -> withText("q;x1;p3"), f -> f.follow(), -100);
        refused("a fault in the middle", () -> withText("x1;p3;x3;p3"), f -> f.follow(), -107);
        refused("a text that ends too early", () -> withText("x1;p3;"), f -> f.follow(), -106);
        refused("a fault, and too many hours", () -> withText("x1;p99;p99;l"), f -> f.follow(), -112);
    }

    private static void tells() {
        Floats x = Rich.floats();
        String before = x.told();
        for (int i = -26; i <= 202; i += 12) {
            int n = i;
            x.act(f -> f.sea(n));
            x.act(f -> f.outside(n % 3, n));
            x.act(f -> f.hour(0, n, n % 5));
        }
        for (int i = -1; i <= 13; i++) {
            int n = i;
            x.act(f -> f.station(0, n));
            x.act(f -> f.gap(0, n % 3, n));
            x.act(f -> f.misfit(0, n % 2, 1, n));
            x.act(f -> f.bestPhase(0, n, 2));
            x.act(f -> f.high(0, n));
            x.act(f -> f.count(n));
        }
        Checks.due("what is told", x.told(), before);
    }
}

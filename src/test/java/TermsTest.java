/** Each sentence of the document's "Terms" (and of its head) that names a boundary case has a test of its own. */
public final class TermsTest {
    private static final int UNKNOWN = SiltedFloats.UNKNOWN;
    private static final int BAD_VALUE = SiltedFloats.BAD_VALUE;
    private static final int FULL = SiltedFloats.FULL;
    private static final int NOT_POSSIBLE = SiltedFloats.NOT_POSSIBLE;
    private static final int NONE = SiltedFloats.NONE;

    public static void main(String[] args) {
        head();
        sea();
        stations();
        anHour();
        levelling();
        gaps();
        mending();
        misfits();
        texts();
        history();
        Checks.end();
    }

    private static void due(String call, long got, long want) {
        Checks.due(call, got, want);
    }

    private static void due(String call, String got, String want) {
        Checks.due(call, got, want);
    }

    /** Sets a sea of one wave. */
    private static Floats wave(int amplitude, int period, int phase) {
        Floats x = new Floats();
        x.setWave(0, amplitude, period, phase);
        return x;
    }

    private static void rowDue(String what, Floats x, int station, int from, int tells, int... wants) {
        for (int i = 0; i < wants.length; i++) {
            int h = from + i;
            due(what + ": hour(" + station + ", " + h + ", " + tells + ")", x.hour(station, h, tells), wants[i]);
        }
    }

    // ---- the head, and what is said of all numbers

    private static void head() {
        Checks.said("An object is used for at most 512 calls", TermsTest::calls);
        Checks.said("divisions are rounded towards lesser numbers", TermsTest::roundedWaves);
        Checks.said("divisions are rounded towards lesser numbers", TermsTest::roundedWater);
        Checks.said("divisions are rounded towards lesser numbers", TermsTest::roundedFloats);
        Checks.said("divisions are rounded towards lesser numbers", TermsTest::roundedCorrections);
        Checks.said("divisions are rounded towards lesser numbers", TermsTest::roundedMendedValues);
        Checks.said("where a level is told, 100000 is added to it", TermsTest::leastLevels);
        Checks.said("where a level is told, 100000 is added to it", TermsTest::greatestLevels);
    }

    private static void calls() {
        SiltedFloats x = new SiltedFloats();
        for (int i = 1; i <= 510; i++) {
            due("the call " + i, x.setRate(0, true, i % 2), 1 - i % 2);
        }
        due("the call 511", x.pass(120), 120);
        due("the call 512", x.count(0), 120);
        for (int i = 0; i < 1000; i++) {
            x.setRate(0, false, i % 2);
            x.type('p');
            x.undo();
            x.hour(0, i, 0);
        }
    }

    private static void roundedWaves() {
        Floats x = wave(1, 3, 0);
        due("-1 + 4 / 3", x.sea(1), 100000);
        due("3 - 8 / 3", x.sea(2), 100001);
    }

    private static void roundedWater() {
        Floats x = wave(1, 2, 0);
        x.setStation(0, 0, 10, 0);
        due("10 * -1 / 100", x.outside(0, 0), 99999);
        due("10 * 1 / 100", x.outside(0, 1), 100000);
        x.setWave(0, 10, 2, 0);
        due("10 * -10 / 100", x.outside(0, 0), 99999);
        x.setWave(0, 11, 2, 0);
        due("10 * -11 / 100", x.outside(0, 0), 99998);
    }

    private static void roundedFloats() {
        Floats x = wave(1, 4, 0);
        x.setRate(0, false, 1);
        x.pass(6);
        rowDue("by 0, 1 * 99 / 100, 2 * 98 / 100, 0 * 97 / 100, -1 * 96 / 100, 1 * 95 / 100",
                x, 0, 0, 0, 99999, 99999, 100000, 100000, 99999, 99999);
    }

    private static void roundedCorrections() {
        Floats x = Floats.flat();
        x.setRate(0, true, 3);
        x.pass(3);
        x.level(0);
        x.pass(2);
        rowDue("0 / 3, 1 / 3, 2 / 3", x, 0, 0, 3, 0, 0, 0, 1, 1);
    }

    private static void roundedMendedValues() {
        Floats x = Floats.flatWith("+--");
        x.setRate(1, true, 1);
        x.pass(1);
        x.setRate(1, true, 0);
        x.passRows("+");
        due("the neighbour rises by 1", x.hour(1, 4, 0), 100001);
        due("mend(0, 0, 1, 0)", x.mend(0, 0, 1, 0), 3);
        rowDue("-1 / 4, -2 / 4, -3 / 4", x, 0, 1, 2, 99999, 99999, 99999);
        due("mend(0, 0, 2, 0)", x.mend(0, 0, 2, 0), 3);
        rowDue("0 / 4", x, 0, 1, 2, 100000, 100000, 100000);
        Floats rising = Floats.flatWith("+--");
        rising.setRate(0, true, 4);
        rising.passRows("-+");
        due("the station rises by 1", rising.hour(0, 4, 0), 100001);
        due("mend(0, 0, 1, 0)", rising.mend(0, 0, 1, 0), 3);
        rowDue("1 / 4, 2 / 4, 3 / 4", rising, 0, 1, 2, 100000, 100000, 100000);
    }

    private static void leastLevels() {
        Floats x = wave(3000, 2, 0);
        x.setWave(1, 3000, 2, 0);
        due("setWave", x.setWave(2, 3000, 2, 0), 91000);
        due("sea(0)", x.sea(0), 91000);
        due("setStation", x.setStation(0, 0, 200, -2000), 80000);
        due("outside", x.outside(0, 0), 80000);
        due("the offset", x.station(0, 2), 98000);
        due("the float", x.station(0, 3), 80000);
        x.setStation(1, 0, 200, -2000);
        x.passRows("++-+");
        due("the reading", x.hour(0, 0, 0), 80000);
        due("the corrected reading", x.hour(0, 0, 1), 80000);
        x.mend(0, 0, 1, 0);
        due("the mended value", x.hour(0, 2, 2), 80000);
    }

    private static void greatestLevels() {
        Floats x = wave(3000, 2, 1);
        x.setWave(1, 3000, 2, 1);
        due("setWave", x.setWave(2, 3000, 2, 1), 109000);
        due("sea(0)", x.sea(0), 109000);
        due("setStation", x.setStation(0, 0, 200, 2000), 120000);
        due("outside", x.outside(0, 0), 120000);
        due("the offset", x.station(0, 2), 102000);
        due("the float", x.station(0, 3), 120000);
        x.setStation(1, 0, 200, 2000);
        x.passRows("++-+");
        x.mend(0, 0, 1, 0);
        due("the mended value", x.hour(0, 2, 2), 120000);
        Floats sinking = wave(3000, 2, 1);
        sinking.setRate(0, true, 1);
        sinking.pass(120);
        due("a reading of a gauge that has sunk", sinking.hour(0, 118, 0), 103118);
        sinking.level(0);
        due("its corrected reading", sinking.hour(0, 118, 1), 103000);
    }

    // ---- the sea

    private static void sea() {
        Checks.said("Hours are numbered from 0", TermsTest::hoursFrom0);
        Checks.said("at most 120 pass", TermsTest::atMost120Hours);
        Checks.said("at most 120 pass", TermsTest::atMost120HoursByOrders);
        Checks.said("There are three waves, numbered from 0", TermsTest::threeWaves);
        Checks.said("an amplitude (0 to 3000)", TermsTest::amplitudes);
        Checks.said("a period (2 to 48 hours)", TermsTest::periods);
        Checks.said("a phase (0 to 47)", TermsTest::phases);
        Checks.said("At first: amplitude 1000, period 12, phase 0; and the waves 1 and 2 with the amplitude 0,"
                + " the period 24 and the phase 0", TermsTest::wavesAtFirst);
        Checks.said("the rest of the hour plus the phase, divided by the period", TermsTest::restWraps);
        Checks.said("if 2 * p is at most the period, otherwise", TermsTest::upAndDown);
        Checks.said("The sea at an hour is the sum of the three waves", TermsTest::sumOfWaves);
        Checks.said("Hours below 0 are possible: the rest is from 0 to the period less 1", TermsTest::hoursBelow0);
    }

    private static void hoursFrom0() {
        Floats x = new Floats();
        due("the hour of a new object", x.count(0), 0);
        due("the hour 0 has not passed", x.hour(0, 0, 4), NONE);
        x.pass(1);
        due("the hour 0 has passed", x.hour(0, 0, 4), 0);
        due("the hour 1 has not passed", x.hour(0, 1, 4), NONE);
    }

    private static void atMost120Hours() {
        due("120 at once", new Floats().pass(120), 120);
        due("121 at once", new Floats().pass(121), BAD_VALUE);
        Floats x = new Floats();
        x.pass(119);
        due("2 behind 119", x.pass(2), FULL);
        due("1 behind 119", x.pass(1), 120);
        due("1 behind 120", x.pass(1), FULL);
        due("the hour", x.count(0), 120);
        due("the hour 119 has passed", x.hour(0, 119, 4), 0);
        due("there is no hour 120", x.hour(0, 120, 4), NONE);
    }

    private static void atMost120HoursByOrders() {
        Floats x = new Floats();
        due("99 and 22", x.followed("p99;p22"), FULL);
        due("the hour", x.count(0), 0);
        due("99 and 21", x.followed("p99;p21"), 2);
        due("the hour", x.count(0), 120);
        due("one more", x.followed("p1"), FULL);
        due("the hour", x.count(0), 120);
    }

    private static void threeWaves() {
        due("the wave -1", new Floats().setWave(-1, 5, 5, 5), UNKNOWN);
        due("the wave 0", new Floats().setWave(0, 5, 2, 1), 100005);
        due("the wave 1", new Floats().setWave(1, 5, 2, 1), 99005);
        due("the wave 2", new Floats().setWave(2, 5, 2, 1), 99005);
        due("the wave 3", new Floats().setWave(3, 5, 2, 1), UNKNOWN);
    }

    private static void amplitudes() {
        due("-1", new Floats().setWave(0, -1, 12, 0), BAD_VALUE);
        due("0", new Floats().setWave(0, 0, 12, 0), 100000);
        due("1", new Floats().setWave(0, 1, 12, 0), 99999);
        due("3000", new Floats().setWave(0, 3000, 12, 0), 97000);
        due("3001", new Floats().setWave(0, 3001, 12, 0), BAD_VALUE);
    }

    private static void periods() {
        due("-2", new Floats().setWave(0, 1000, -2, 0), BAD_VALUE);
        due("0", new Floats().setWave(0, 1000, 0, 0), BAD_VALUE);
        due("1", new Floats().setWave(0, 1000, 1, 0), BAD_VALUE);
        due("2", new Floats().setWave(0, 1000, 2, 1), 101000);
        due("48", new Floats().setWave(0, 1000, 48, 24), 101000);
        due("49", new Floats().setWave(0, 1000, 49, 24), BAD_VALUE);
    }

    private static void phases() {
        due("-1", new Floats().setWave(0, 1000, 12, -1), BAD_VALUE);
        due("0", new Floats().setWave(0, 1000, 48, 0), 99000);
        due("47: 3000 - 188000 / 48", new Floats().setWave(0, 1000, 48, 47), 100000 + 3000 - 3916);
        due("48", new Floats().setWave(0, 1000, 48, 48), BAD_VALUE);
    }

    private static void wavesAtFirst() {
        Floats x = new Floats();
        due("the wave 0", x.setWave(0, 1000, 12, 0), NONE);
        due("the wave 1", x.setWave(1, 0, 24, 0), NONE);
        due("the wave 2", x.setWave(2, 0, 24, 0), NONE);
        due("sea(0)", x.sea(0), 99000);
        due("sea(6)", x.sea(6), 101000);
        due("the wave 1 with an amplitude", x.setWave(1, 100, 24, 0), 98900);
        due("sea(12)", x.sea(12), 99100);
        due("the wave 2 with an amplitude", x.setWave(2, 10, 24, 0), 98890);
        due("sea(12)", x.sea(12), 99110);
    }

    private static void restWraps() {
        Floats x = new Floats();
        due("sea(11): 3000 - 44000 / 12", x.sea(11), 100000 + 3000 - 3666);
        due("sea(12)", x.sea(12), 99000);
        due("sea(13)", x.sea(13), 99333);
        due("sea(191)", x.sea(191), 100000 + 3000 - 3666);
        due("sea(192)", x.sea(192), 99000);
        Floats late = wave(1000, 48, 47);
        due("phase 47, period 48: sea(1)", late.sea(1), 99000);
        due("phase 47, period 48: sea(2)", late.sea(2), 99083);
        due("phase 47, period 48: sea(48)", late.sea(48), 100000 + 3000 - 3916);
        due("phase 47, period 48: sea(49)", late.sea(49), 99000);
        due("phase 12, period 12: sea(0)", wave(1000, 12, 12).sea(0), 99000);
        due("phase 47, period 47: sea(0)", wave(1000, 47, 47).sea(0), 99000);
        due("phase 47, period 2: sea(0)", wave(1000, 2, 47).sea(0), 101000);
        due("phase 46, period 2: sea(0)", wave(1000, 2, 46).sea(0), 99000);
    }

    private static void upAndDown() {
        Floats odd = wave(3000, 47, 0);
        due("period 47, p 23: -3000 + 276000 / 47", odd.sea(23), 100000 - 3000 + 5872);
        due("period 47, p 24: 9000 - 288000 / 47", odd.sea(24), 100000 + 9000 - 6127);
        Floats even = wave(3000, 48, 0);
        due("period 48, p 23", even.sea(23), 102750);
        due("period 48, p 24", even.sea(24), 103000);
        due("period 48, p 25", even.sea(25), 102750);
        Floats three = wave(1000, 3, 0);
        due("period 3, p 1: -1000 + 4000 / 3", three.sea(1), 100333);
        due("period 3, p 2: 3000 - 8000 / 3", three.sea(2), 100334);
        due("period 2, p 0", wave(1000, 2, 0).sea(0), 99000);
        due("period 2, p 1", wave(1000, 2, 0).sea(1), 101000);
    }

    private static void sumOfWaves() {
        Floats x = wave(1, 3, 0);
        x.setWave(1, 1, 3, 0);
        x.setWave(2, 1, 3, 0);
        due("each of them is rounded: sea(1)", x.sea(1), 100000);
        due("each of them is rounded: sea(2)", x.sea(2), 100003);
        Floats y = wave(3000, 2, 1);
        y.setWave(1, 300, 2, 1);
        y.setWave(2, 30, 2, 1);
        due("the greatest of three", y.sea(0), 103330);
        due("the least of three", y.sea(1), 96670);
    }

    private static void hoursBelow0() {
        Floats x = wave(1000, 7, 0);
        due("period 7: sea(-1): p is 6: 3000 - 24000 / 7", x.sea(-1), 100000 + 3000 - 3428);
        due("period 7: sea(-7): p is 0", x.sea(-7), 99000);
        due("period 7: sea(-24): p is 4: 3000 - 16000 / 7", x.sea(-24), 100000 + 3000 - 2285);
        due("period 48, phase 23: sea(-23)", wave(1000, 48, 23).sea(-23), 99000);
        due("period 48, phase 23: sea(-24): p is 47", wave(1000, 48, 23).sea(-24), 100000 + 3000 - 3916);
        due("period 48, phase 0: sea(-24)", wave(1000, 48, 0).sea(-24), 101000);
        due("period 2, phase 0: sea(-1)", wave(1000, 2, 0).sea(-1), 101000);
        due("period 2, phase 0: sea(-24)", wave(1000, 2, 0).sea(-24), 99000);
        Floats late = wave(1000, 48, 0);
        late.setStation(0, 12, 100, 0);
        due("the water at 0 by the sea at -12: p is 36", late.outside(0, 0), 100000);
        due("the water at 1 by the sea at -11: p is 37", late.outside(0, 1), 100000 + 3000 - 3083);
        due("the water at 12 by the sea at 0", late.outside(0, 12), 99000);
    }

    // ---- stations

    private static void stations() {
        Checks.said("There are three stations, numbered from 0", TermsTest::threeStations);
        Checks.said("a delay (0 to 12 hours; its number at first)", TermsTest::delays);
        Checks.said("a scale (10 to 200 percent; 100)", TermsTest::scales);
        Checks.said("an offset (-2000 to 2000; 0)", TermsTest::offsets);
        Checks.said("the sea at the hour that is earlier by the delay", TermsTest::earlierByTheDelay);
        Checks.said("a float with a level, as the water outside at the hour 0 at first", TermsTest::floatsAtFirst);
        Checks.said("silt (0 to 90; 0 at first)", TermsTest::silt);
        Checks.said("the silting s (0 to 20 hours; 0: none)", TermsTest::siltings);
        Checks.said("in each hour whose number plus 1 is divisible by s, the silt grows", TermsTest::hoursOfSilting);
        Checks.said("by 1, up to 90", TermsTest::siltUpTo90);
        Checks.said("a sinking d (0 to 20 hours; 0: none)", TermsTest::sinkings);
        Checks.said("in each hour whose number plus 1 is divisible by d, its gauge sinks", TermsTest::hoursOfSinking);
        Checks.said("so that it reads 1 more", TermsTest::readsMore);
        Checks.said("It is on (at first) or off", TermsTest::onAtFirst);
    }

    private static void threeStations() {
        Floats x = new Floats();
        x.setRate(0, false, 1);
        x.setRate(2, false, 1);
        x.passRows("+-+", "+++", "+-+");
        x.mend(0, 0, 1, 0);
        for (int s = -1; s <= 3; s += 4) {
            due("setStation(" + s + ")", new Floats().setStation(s, 5, 50, 5), UNKNOWN);
            due("setRate(" + s + ")", x.setRate(s, true, 5), UNKNOWN);
            due("turn(" + s + ")", x.turn(s, false), UNKNOWN);
            due("clean(" + s + ")", x.clean(s), UNKNOWN);
            due("level(" + s + ")", x.level(s), UNKNOWN);
            due("mend(" + s + ")", x.mend(s, 0, 1, 0), UNKNOWN);
            due("mend by " + s, x.mend(0, 0, s, 0), UNKNOWN);
            due("forget(" + s + ")", x.forget(s), UNKNOWN);
            due("outside(" + s + ")", x.outside(s, 0), UNKNOWN);
            due("station(" + s + ")", x.station(s, 0), UNKNOWN);
            due("hour(" + s + ")", x.hour(s, 0, 0), UNKNOWN);
            due("gap(" + s + ")", x.gap(s, 0, 0), UNKNOWN);
            due("misfit(" + s + ")", x.misfit(s, 0, 1, 0), UNKNOWN);
            due("misfit by " + s, x.misfit(0, 0, s, 0), UNKNOWN);
            due("bestPhase(" + s + ")", x.bestPhase(s, 0, 1), UNKNOWN);
            due("bestPhase by " + s, x.bestPhase(0, 0, s), UNKNOWN);
            due("high(" + s + ")", x.high(s, 0), UNKNOWN);
        }
        for (int s = 0; s <= 2; s += 2) {
            int delay = x.station(s, 0);
            due("the delay of " + s, delay, s);
            due("outside(" + s + ")", x.outside(s, 6 + s), 101000);
            due("hour(" + s + ")", x.hour(s, 0, 4), 0);
            due("gap(" + s + ")", x.gap(s, 0, 0), 1);
            Checks.isTrue("misfit(" + s + ")", x.misfit(s, 0, 1, 0) >= 0);
            due("misfit by " + s, x.misfit(2 - s, 0, s, 0), NONE);
            due("bestPhase(" + s + ")", x.bestPhase(s, 0, 1), 100);
            due("bestPhase by " + s, x.bestPhase(2 - s, 0, s), NONE);
            due("high(" + s + ")", x.high(s, 0), NONE);
            due("mend by " + s, x.mend(2 - s, 0, s, 0), NOT_POSSIBLE);
            due("mend(" + s + ")", x.mend(s, 0, 1, 0), 1);
            due("forget(" + s + ")", x.forget(s), 1);
            due("level(" + s + ")", x.level(s), 0);
            due("clean(" + s + ")", x.clean(s), 3);
            due("setRate(" + s + ")", x.setRate(s, true, 5), 0);
            due("turn(" + s + ")", x.turn(s, false), 2);
            x.turn(s, true);
            due("setStation(" + s + ")", new Floats().setStation(s, 0, 50, 5), 99505);
        }
    }

    private static void delays() {
        for (int s = 0; s < 3; s++) {
            due("at first", new Floats().station(s, 0), s);
        }
        due("-1", new Floats().setStation(0, -1, 100, 0), BAD_VALUE);
        due("0", new Floats().setStation(1, 0, 100, 0), 99000);
        due("12", new Floats().setStation(1, 12, 100, 0), 99000);
        due("13", new Floats().setStation(0, 13, 100, 0), BAD_VALUE);
    }

    private static void scales() {
        for (int s = 0; s < 3; s++) {
            due("at first", new Floats().station(s, 1), 100);
        }
        due("9", new Floats().setStation(0, 0, 9, 0), BAD_VALUE);
        due("10", new Floats().setStation(0, 0, 10, 0), 99900);
        due("200", new Floats().setStation(0, 0, 200, 0), 98000);
        due("201", new Floats().setStation(0, 0, 201, 0), BAD_VALUE);
    }

    private static void offsets() {
        for (int s = 0; s < 3; s++) {
            due("at first", new Floats().station(s, 2), 100000);
        }
        due("-2001", new Floats().setStation(0, 0, 100, -2001), BAD_VALUE);
        due("-2000", new Floats().setStation(0, 0, 100, -2000), 97000);
        due("2000", new Floats().setStation(0, 0, 100, 2000), 101000);
        due("2001", new Floats().setStation(0, 0, 100, 2001), BAD_VALUE);
    }

    private static void earlierByTheDelay() {
        Floats x = wave(1000, 48, 0);
        x.setStation(0, 0, 100, 0);
        x.setStation(1, 12, 100, 0);
        due("no delay at 24", x.outside(0, 24), 101000);
        due("a delay of 12 at 24", x.outside(1, 24), 100000);
        due("a delay of 12 at 36", x.outside(1, 36), 101000);
        due("a delay of 12 at 12", x.outside(1, 12), 99000);
        due("a delay of 12 at 0: the sea at -12", x.outside(1, 0), 100000);
        due("a delay of 12 at 200: the sea at 188: p is 44", x.outside(1, 200), 100000 + 3000 - 3666);
    }

    private static void floatsAtFirst() {
        Floats x = new Floats();
        due("by the sea of 0", x.station(0, 3), 99000);
        due("by the sea of -1", x.station(1, 3), 99334);
        due("by the sea of -2", x.station(2, 3), 99667);
        x.setWave(1, 100, 2, 1);
        due("by another sea of 0", x.station(0, 3), 99100);
        due("by another sea of -1", x.station(1, 3), 99234);
        due("by another sea of -2", x.station(2, 3), 99767);
        due("setStation(2, 0, 50, -7)", x.setStation(2, 0, 50, -7), 99543);
        due("by other numbers", x.station(2, 3), 99543);
        due("of another station", x.station(1, 3), 99234);
    }

    private static void silt() {
        Floats x = new Floats();
        for (int s = 0; s < 3; s++) {
            due("at first", x.station(s, 4), 0);
            due("there is none to be cleaned", x.clean(s), NONE);
        }
        x.setRate(1, false, 1);
        x.pass(120);
        due("at most", x.station(1, 4), 90);
        due("clean(1)", x.clean(1), 90);
        due("at least", x.station(1, 4), 0);
        due("of another station", x.station(0, 4), 0);
    }

    private static void siltings() {
        Floats x = new Floats();
        due("at first", x.station(0, 5), 0);
        due("0 is so already", x.setRate(0, false, 0), NONE);
        due("-1", x.setRate(0, false, -1), BAD_VALUE);
        due("21", x.setRate(0, false, 21), BAD_VALUE);
        due("20", x.setRate(0, false, 20), 0);
        due("1", x.setRate(0, false, 1), 20);
        due("0", x.setRate(0, false, 0), 1);
        x.pass(120);
        due("none", x.station(0, 4), 0);
    }

    private static void hoursOfSilting() {
        Floats x = new Floats();
        x.setRate(0, false, 1);
        x.setRate(1, false, 20);
        x.setRate(2, false, 7);
        x.pass(1);
        due("1: in the hour 0", x.station(0, 4), 1);
        x.pass(5);
        due("7: not in the hour 5", x.station(2, 4), 0);
        x.pass(1);
        due("7: in the hour 6", x.station(2, 4), 1);
        due("1: in each hour", x.station(0, 4), 7);
        x.pass(12);
        due("20: not in the hour 18", x.station(1, 4), 0);
        x.pass(1);
        due("20: in the hour 19", x.station(1, 4), 1);
        due("7: in the hour 13", x.station(2, 4), 2);
        x.setRate(0, false, 5);
        x.pass(4);
        due("5: not in the hour 23", x.station(0, 4), 20);
        x.pass(1);
        due("5: by the hour's number, not by when it was set", x.station(0, 4), 21);
        x.pass(95);
        due("20: in the hour 119, too", x.station(1, 4), 6);
    }

    private static void siltUpTo90() {
        Floats x = wave(1000, 2, 0);
        x.setRate(0, false, 1);
        x.pass(89);
        due("after 89 hours", x.station(0, 4), 89);
        x.pass(1);
        due("after 90 hours", x.station(0, 4), 90);
        x.pass(1);
        due("after 91 hours", x.station(0, 4), 90);
        x.pass(3);
        for (int h = 90; h < 94; h++) {
            int water = h % 2 == 0 ? -1000 : 1000;
            int ahead = x.hour(0, h - 1, 0) - 100000;
            due("the float goes by 10 / 100 at " + h, x.hour(0, h, 0),
                    100000 + ahead + Math.floorDiv((water - ahead) * 10, 100));
        }
        due("clean(0)", x.clean(0), 90);
        x.pass(1);
        due("it grows anew", x.station(0, 4), 1);
    }

    private static void sinkings() {
        Floats x = new Floats();
        due("at first", x.station(0, 6), 0);
        due("0 is so already", x.setRate(0, true, 0), NONE);
        due("-1", x.setRate(0, true, -1), BAD_VALUE);
        due("21", x.setRate(0, true, 21), BAD_VALUE);
        due("20", x.setRate(0, true, 20), 0);
        due("1", x.setRate(0, true, 1), 20);
        due("0", x.setRate(0, true, 0), 1);
        x.pass(120);
        due("none", x.station(0, 7), 0);
    }

    private static void hoursOfSinking() {
        Floats x = new Floats();
        x.setRate(0, true, 1);
        x.setRate(1, true, 20);
        x.setRate(2, true, 7);
        x.pass(1);
        due("1: in the hour 0", x.station(0, 7), 1);
        x.pass(5);
        due("7: not in the hour 5", x.station(2, 7), 0);
        x.pass(1);
        due("7: in the hour 6", x.station(2, 7), 1);
        x.pass(12);
        due("20: not in the hour 18", x.station(1, 7), 0);
        x.pass(1);
        due("20: in the hour 19", x.station(1, 7), 1);
        x.setRate(2, true, 5);
        x.pass(4);
        due("5: not in the hour 23", x.station(2, 7), 2);
        x.pass(1);
        due("5: by the hour's number, not by when it was set", x.station(2, 7), 3);
        x.pass(95);
        due("20: in the hour 119, too", x.station(1, 7), 6);
        due("1: it has no bound", x.station(0, 7), 120);
    }

    private static void readsMore() {
        Floats x = Floats.flat();
        x.setRate(0, true, 2);
        x.pass(5);
        rowDue("the readings", x, 0, 0, 0, 100000, 100000, 100001, 100001, 100002);
        due("the float does not", x.station(0, 3), 100000);
    }

    private static void onAtFirst() {
        Floats x = new Floats();
        due("stations that are on", x.count(1), 3);
        for (int s = 0; s < 3; s++) {
            due("it is on", x.station(s, 8), 1);
            due("on already", x.turn(s, true), NONE);
            due("off", x.turn(s, false), 2 - s);
            due("it is off", x.station(s, 8), 0);
        }
        due("none is on", x.count(1), 0);
    }

    // ---- an hour

    private static void anHour() {
        Checks.said("the float goes by ..; then silt and sinking grow", TermsTest::floatAheadOfSilt);
        Checks.said("the level of the float plus how much the gauge has sunk so far; then .. sinking grow",
                TermsTest::readingAheadOfSinking);
        Checks.said("if it is off, there is none", TermsTest::noReadingWhileOff);
        Checks.said("then silt and sinking grow, as told", TermsTest::growWhileOff);
        Checks.said("Then the hour becomes greater by 1", TermsTest::hourGrows);
        Checks.said("A station's numbers can be set only while the hour is 0", TermsTest::numbersAtHour0);
        Checks.said("its silting and sinking at any time", TermsTest::ratesAtAnyTime);
        Checks.said("its waves only while the hour is 0, too", TermsTest::wavesAtHour0);
    }

    private static void floatAheadOfSilt() {
        Floats x = wave(100, 2, 0);
        x.setRate(0, false, 1);
        x.pass(3);
        rowDue("at the water outside; by 200 * 99 / 100; by -198 * 98 / 100, rounded",
                x, 0, 0, 0, 99900, 100098, 99903);
        due("the float is where it was read", x.station(0, 3), 99903);
        due("and the silt has grown since", x.station(0, 4), 3);
    }

    private static void readingAheadOfSinking() {
        Floats x = Floats.flat();
        x.setRate(0, true, 1);
        x.pass(1);
        due("the reading of the hour 0", x.hour(0, 0, 0), 100000);
        due("it has sunk then", x.station(0, 7), 1);
        x.pass(1);
        due("the reading of the hour 1", x.hour(0, 1, 0), 100001);
    }

    private static void noReadingWhileOff() {
        Floats x = new Floats();
        x.passRows("-+-");
        due("readings", x.station(0, 9), 1);
        rowDue("off, on, off", x, 0, 0, 0, NONE, 99333, NONE);
        rowDue("off, on, off", x, 0, 0, 1, NONE, 99333, NONE);
        rowDue("off, on, off", x, 0, 0, 4, 1, 0, 1);
        due("of another station", x.station(1, 9), 3);
    }

    private static void growWhileOff() {
        Floats x = new Floats();
        x.setRate(0, false, 1);
        x.setRate(0, true, 2);
        x.turn(0, false);
        x.pass(4);
        due("the silt", x.station(0, 4), 4);
        due("the sinking", x.station(0, 7), 2);
        due("the float: -1000, then by 333 * 99, 337 * 98 and 341 * 97 / 100: 329, 330 and 330",
                x.station(0, 3), 100000 - 1000 + 329 + 330 + 330);
    }

    private static void hourGrows() {
        Floats x = new Floats();
        for (int h = 1; h <= 120; h++) {
            due("pass(1)", x.pass(1), h);
        }
        due("count(0)", x.count(0), 120);
    }

    private static void numbersAtHour0() {
        Floats x = new Floats();
        due("at 0", x.setStation(0, 5, 100, 0), 100000 + 3000 - 2333);
        x.keep();
        x.pass(1);
        due("at 1", x.setStation(0, 6, 100, 0), NOT_POSSIBLE);
        due("its delay", x.station(0, 0), 5);
        x.pass(119);
        due("at 120", x.setStation(0, 6, 100, 0), NOT_POSSIBLE);
        x.undo();
        due("at 1 again", x.setStation(0, 6, 100, 0), NOT_POSSIBLE);
        x.undo();
        due("at 0 again", x.setStation(0, 6, 100, 0), 101000);
        x.pass(1);
        x.restore();
        due("at 0 of the snapshot", x.setStation(0, 6, 100, 0), 101000);
    }

    private static void ratesAtAnyTime() {
        Floats x = new Floats();
        due("the silting at 0", x.setRate(0, false, 2), 0);
        due("the sinking at 0", x.setRate(0, true, 2), 0);
        x.pass(1);
        due("the silting at 1", x.setRate(0, false, 3), 2);
        due("the sinking at 1", x.setRate(0, true, 3), 2);
        x.pass(119);
        due("the silting at 120", x.setRate(0, false, 4), 3);
        due("the sinking at 120", x.setRate(0, true, 4), 3);
    }

    private static void wavesAtHour0() {
        Floats x = new Floats();
        due("at 0", x.setWave(1, 5, 24, 0), 98995);
        x.keep();
        x.pass(1);
        due("at 1", x.setWave(1, 6, 24, 0), NOT_POSSIBLE);
        due("the sea", x.sea(0), 98995);
        x.pass(119);
        due("at 120", x.setWave(1, 6, 24, 0), NOT_POSSIBLE);
        x.undo();
        x.undo();
        due("at 0 again", x.setWave(1, 6, 24, 0), 98994);
        x.pass(1);
        x.restore();
        due("at 0 of the snapshot", x.setWave(1, 6, 24, 0), 98994);
    }

    // ---- levelling

    private static void levelling() {
        Checks.said("to note, for the hour of now, how much its gauge has sunk so far", TermsTest::notesOfNow);
        Checks.said("At the hour 0, 0 is noted for each station", TermsTest::notedAtFirst);
        Checks.said("i at most h and h below k", TermsTest::betweenNotes);
        Checks.said("behind the last note it is the last one", TermsTest::behindTheLastNote);
        Checks.said("A note at an hour replaces the former one of this hour", TermsTest::noteOfTheSameHour);
        Checks.said("A corrected reading is the reading less the correction at its hour", TermsTest::corrected);
    }

    private static void notesOfNow() {
        Floats x = Floats.flat();
        x.setRate(0, true, 1);
        x.pass(1);
        due("at 1", x.level(0), 1);
        x.pass(119);
        due("at 120", x.level(0), 120);
        due("at 120 again", x.level(0), NONE);
        due("the notes", x.station(0, 12), 3);
        due("of another station", x.station(1, 12), 1);
        due("the correction at 0", x.hour(0, 0, 3), 0);
        due("the correction at 1", x.hour(0, 1, 3), 1);
        due("the correction at 119", x.hour(0, 119, 3), 119);
    }

    private static void notedAtFirst() {
        Floats x = new Floats();
        for (int s = 0; s < 3; s++) {
            due("a note", x.station(s, 12), 1);
            due("it is noted already", x.level(s), NONE);
        }
        x.setRate(0, true, 1);
        due("the gauge has not sunk yet", x.level(0), NONE);
        x.pass(3);
        rowDue("by the note of the hour 0 alone", x, 0, 0, 3, 0, 0, 0);
        due("nothing sunk, but at another hour", x.level(1), 0);
        due("the notes", x.station(1, 12), 2);
    }

    private static void betweenNotes() {
        Floats x = Floats.flat();
        x.setRate(0, true, 1);
        x.pass(2);
        x.setRate(0, true, 0);
        x.pass(3);
        due("2 at 5", x.level(0), 2);
        x.setRate(0, true, 1);
        x.pass(1);
        due("3 at 6", x.level(0), 3);
        x.pass(4);
        due("7 at 10", x.level(0), 7);
        rowDue("2 * h / 5; 2; 3 + 4 * (h - 6) / 4", x, 0, 0, 3, 0, 0, 0, 1, 1, 2, 3, 4, 5, 6);
        due("four notes", x.station(0, 12), 4);
    }

    private static void behindTheLastNote() {
        Floats x = Floats.flat();
        x.setRate(0, true, 1);
        x.pass(4);
        x.level(0);
        x.pass(3);
        rowDue("at the last note and behind it", x, 0, 4, 3, 4, 4, 4);
        due("ahead of it", x.hour(0, 3, 3), 3);
        x.level(0);
        rowDue("between two", x, 0, 4, 3, 4, 5, 6);
        x.pass(1);
        due("at the last one", x.hour(0, 7, 3), 7);
        x.pass(112);
        due("at 119", x.hour(0, 119, 3), 7);
    }

    private static void noteOfTheSameHour() {
        Floats x = Floats.flat();
        x.setRate(0, true, 1);
        x.pass(4);
        due("at 4", x.level(0), 4);
        due("at 4 again", x.level(0), NONE);
        x.setRate(0, true, 2);
        due("at 4, with another sinking", x.level(0), NONE);
        due("by an order", x.followed("l0;l0"), 2);
        due("the notes", x.station(0, 12), 2);
        x.pass(1);
        x.undo();
        due("at 4 once more", x.level(0), NONE);
        x.pass(2);
        due("at 6", x.level(0), 5);
        due("the notes", x.station(0, 12), 3);
        x.undo();
        due("undone, it is not noted", x.level(0), 5);
        due("the notes", x.station(0, 12), 3);
    }

    private static void corrected() {
        Floats x = Floats.flat();
        x.setRate(0, true, 3);
        x.pass(5);
        x.level(0);
        x.pass(1);
        rowDue("readings", x, 0, 0, 0, 100000, 100000, 100000, 100001, 100001, 100001);
        rowDue("corrections: h / 5", x, 0, 0, 3, 0, 0, 0, 0, 0, 1);
        rowDue("corrected", x, 0, 0, 1, 100000, 100000, 100000, 100001, 100001, 100000);
    }

    // ---- gaps

    private static void gaps() {
        Checks.said("a row of hours that have passed", TermsTest::gapsOfPassedHours);
        Checks.said("one behind the other, without readings, that is as long as can be", TermsTest::longGaps);
        Checks.said("gaps are numbered from 0 by their hours", TermsTest::numberedGaps);
        Checks.said("An inner gap has a reading ahead of it (at the hour i)", TermsTest::readingAhead);
        Checks.said("and behind it (at the hour k)", TermsTest::readingBehind);
    }

    private static void gapsOfPassedHours() {
        Floats x = new Floats();
        x.turn(0, false);
        due("none while no hour has passed", x.station(0, 10), 0);
        due("gap(0, 0, 0)", x.gap(0, 0, 0), UNKNOWN);
        due("hours in gaps", x.count(3), 0);
        x.turn(0, true);
        x.pass(1);
        x.turn(0, false);
        x.turn(0, true);
        x.pass(1);
        due("none by being off within an hour", x.station(0, 10), 0);
        x.turn(0, false);
        due("nor by being off now", x.station(0, 10), 0);
        x.pass(1);
        due("but when an hour has passed", x.station(0, 10), 1);
        due("its first hour", x.gap(0, 0, 0), 2);
        due("its last hour", x.gap(0, 0, 1), 2);
        x.pass(117);
        due("its last hour is the last one of all", x.gap(0, 0, 1), 119);
    }

    private static void longGaps() {
        Floats x = new Floats();
        x.turn(0, false);
        x.pass(60);
        x.pass(60);
        due("one gap", x.station(0, 10), 1);
        due("from 0", x.gap(0, 0, 0), 0);
        due("to 119", x.gap(0, 0, 1), 119);
        due("hours in gaps", x.count(3), 120);
        Floats two = Floats.flatWith("+--+-+");
        due("a reading divides them", two.station(0, 10), 2);
        due("the one of two hours", two.gap(0, 0, 1), 2);
        due("the one of one hour", two.gap(0, 1, 0), 4);
        due("the one of one hour", two.gap(0, 1, 1), 4);
        two.mend(0, 0, 1, 0);
        due("mended hours are in it still", two.gap(0, 0, 1), 2);
        due("mended hours divide nothing", two.station(0, 10), 2);
    }

    private static void numberedGaps() {
        Floats x = Floats.flatWith("+-".repeat(60));
        due("60 gaps", x.station(0, 10), 60);
        due("the gap -1", x.gap(0, -1, 0), UNKNOWN);
        due("the gap 0", x.gap(0, 0, 0), 1);
        due("the gap 1", x.gap(0, 1, 0), 3);
        due("the gap 59", x.gap(0, 59, 0), 119);
        due("the gap 60", x.gap(0, 60, 0), UNKNOWN);
        due("mend the gap -1", x.mend(0, -1, 1, 0), UNKNOWN);
        due("mend the gap 58", x.mend(0, 58, 1, 0), 1);
        due("it is at 117", x.hour(0, 117, 4), 2);
        due("mend the gap 60", x.mend(0, 60, 1, 0), UNKNOWN);
        due("misfit of the gap -1", x.misfit(0, -1, 1, 0), UNKNOWN);
        due("misfit of the gap 60", x.misfit(0, 60, 1, 0), UNKNOWN);
        due("best phase of the gap -1", x.bestPhase(0, -1, 1), UNKNOWN);
        due("best phase of the gap 60", x.bestPhase(0, 60, 1), UNKNOWN);
    }

    private static void readingAhead() {
        Floats from0 = Floats.flatWith("--+");
        due("from the hour 0 on", from0.gap(0, 0, 2), 0);
        due("mend", from0.mend(0, 0, 1, 0), NOT_POSSIBLE);
        due("misfit", from0.misfit(0, 0, 1, 0), NOT_POSSIBLE);
        due("bestPhase", from0.bestPhase(0, 0, 1), NOT_POSSIBLE);
        Floats from1 = Floats.flatWith("+-+");
        due("from the hour 1 on", from1.gap(0, 0, 2), 1);
        due("misfit", from1.misfit(0, 0, 1, 0), 0);
        due("bestPhase", from1.bestPhase(0, 0, 1), 100);
        due("mend", from1.mend(0, 0, 1, 0), 1);
    }

    private static void readingBehind() {
        Floats x = Floats.flatWith("+-");
        due("up to the last hour", x.gap(0, 0, 2), 0);
        x.turn(0, true);
        due("on again", x.gap(0, 0, 2), 0);
        due("mend", x.mend(0, 0, 1, 0), NOT_POSSIBLE);
        due("misfit", x.misfit(0, 0, 1, 0), NOT_POSSIBLE);
        due("bestPhase", x.bestPhase(0, 0, 1), NOT_POSSIBLE);
        x.pass(1);
        due("when there is a reading", x.gap(0, 0, 2), 1);
        due("misfit", x.misfit(0, 0, 1, 0), 0);
        due("bestPhase", x.bestPhase(0, 0, 1), 100);
        due("mend", x.mend(0, 0, 1, 0), 1);
        Floats late = Floats.flatWith(Floats.row(120, 118));
        due("up to 118", late.gap(0, 0, 2), 1);
        due("mend", late.mend(0, 0, 1, 0), 1);
        Floats last = Floats.flatWith(Floats.row(120, 119));
        due("up to 119", last.gap(0, 0, 2), 0);
        due("mend", last.mend(0, 0, 1, 0), NOT_POSSIBLE);
    }

    // ---- mending

    private static void mending() {
        Checks.said("by a neighbour (another station)", TermsTest::anotherStation);
        Checks.said("with a phase f (-12 to 12)", TermsTest::phasesOfMending);
        Checks.said("if the neighbour has readings at all hours from i + f to k + f", TermsTest::readingsNeeded);
        Checks.said("readings at all hours: from the hour 0 on", TermsTest::readingsFromTheFirstHour);
        Checks.said("readings at all hours: to the last one that has passed", TermsTest::readingsToTheLastHour);
        Checks.said("u(h + f) + e + (g - e) * (h - i) / (k - i)", TermsTest::mendedValues);
        Checks.said("What is mended stays, as it is then", TermsTest::mendedStays);
        Checks.said("until it is mended anew", TermsTest::mendedAnew);
        Checks.said("or forgotten", TermsTest::forgotten);
        Checks.said("it is no reading", TermsTest::mendedIsNoReading);
    }

    private static void anotherStation() {
        for (int s = 0; s < 3; s++) {
            Floats x = Floats.flat();
            x.pass(1);
            x.turn(s, false);
            x.pass(1);
            x.turn(s, true);
            x.pass(1);
            for (int n = 0; n < 3; n++) {
                due("misfit of " + s + " by " + n, x.misfit(s, 0, n, 0), n == s ? BAD_VALUE : 0);
                due("bestPhase of " + s + " by " + n, x.bestPhase(s, 0, n), n == s ? BAD_VALUE : 100);
                due("mend " + s + " by " + n, x.mend(s, 0, n, 0), n == s ? BAD_VALUE : 1);
            }
        }
    }

    /** The station 0 has a gap at 15 and 16 (i is 14, k is 17), the station 1 is off as the row says. */
    private static Floats gapAt15(String neighbour) {
        return Floats.flatWith(Floats.row(neighbour.length(), 15, 16), neighbour);
    }

    private static void phasesOfMending() {
        Floats x = gapAt15(Floats.row(32));
        int[] phases = {-13, -12, 12, 13};
        for (int f : phases) {
            boolean allowed = f >= -12 && f <= 12;
            due("misfit, " + f, x.misfit(0, 0, 1, f), allowed ? 0 : BAD_VALUE);
            due("mend, " + f, x.mend(0, 0, 1, f), allowed ? 2 : BAD_VALUE);
        }
    }

    private static void readingsNeeded() {
        int[] phases = {-12, -1, 0, 1, 12};
        for (int f : phases) {
            for (int h = 0; h < 32; h++) {
                Floats x = gapAt15(Floats.row(32, h));
                boolean needed = h >= 14 + f && h <= 17 + f;
                due("misfit, phase " + f + ", none at " + h, x.misfit(0, 0, 1, f), needed ? NONE : 0);
                due("mend, phase " + f + ", none at " + h, x.mend(0, 0, 1, f), needed ? NOT_POSSIBLE : 2);
            }
        }
    }

    private static void readingsFromTheFirstHour() {
        Floats at11 = Floats.flatWith(Floats.row(20, 12));
        due("from 11 - 11 on", at11.mend(0, 0, 1, -11), 1);
        due("from 11 - 12 on", at11.mend(0, 0, 1, -12), NOT_POSSIBLE);
        due("misfit from 11 - 12 on", at11.misfit(0, 0, 1, -12), NONE);
        Floats at12 = Floats.flatWith(Floats.row(20, 13));
        due("from 12 - 12 on", at12.mend(0, 0, 1, -12), 1);
        Floats at0 = Floats.flatWith(Floats.row(20, 1));
        due("from 0 on", at0.mend(0, 0, 1, 0), 1);
        due("from -1 on", at0.mend(0, 0, 1, -1), NOT_POSSIBLE);
    }

    private static void readingsToTheLastHour() {
        Floats x = Floats.flatWith(Floats.row(28, 15));
        due("to 16 + 11, which is the last one", x.mend(0, 0, 1, 11), 1);
        due("to 16 + 12, which has not passed", x.mend(0, 0, 1, 12), NOT_POSSIBLE);
        due("misfit to 16 + 12", x.misfit(0, 0, 1, 12), NONE);
        x.pass(1);
        due("to 16 + 12, which has passed", x.mend(0, 0, 1, 12), 1);
        Floats late = Floats.flatWith(Floats.row(120, 117));
        due("to 119", late.mend(0, 0, 1, 1), 1);
        due("to 120", late.mend(0, 0, 1, 2), NOT_POSSIBLE);
        due("to 130", late.mend(0, 0, 1, 12), NOT_POSSIBLE);
        due("misfit to 130", late.misfit(0, 0, 1, 12), NONE);
    }

    private static void mendedValues() {
        int[] phases = {-2, 0, 3};
        for (int f : phases) {
            Floats x = new Floats();
            x.setWave(1, 700, 17, 5);
            x.setRate(0, true, 3);
            x.setRate(1, true, 2);
            x.setRate(1, false, 2);
            x.passRows("++++-----++++++++");
            x.level(1);
            x.pass(1);
            due("mend, phase " + f, x.mend(0, 0, 1, f), 5);
            int e = x.hour(0, 3, 1) - x.hour(1, 3 + f, 1);
            int g = x.hour(0, 9, 1) - x.hour(1, 9 + f, 1);
            for (int h = 4; h <= 8; h++) {
                due("phase " + f + ", at " + h, x.hour(0, h, 2),
                        x.hour(1, h + f, 1) + e + Math.floorDiv((g - e) * (h - 3), 6));
            }
            due("ahead of the gap", x.hour(0, 3, 2), NONE);
            due("behind the gap", x.hour(0, 9, 2), NONE);
        }
    }

    /** The station 0 has a gap at 2 and 3, which is mended by the station 1; all gauges sink. */
    private static Floats mendedGap() {
        Floats x = Floats.flat();
        x.setRate(0, true, 1);
        x.setRate(1, true, 1);
        x.setRate(2, true, 2);
        x.passRows("++--++");
        x.mend(0, 0, 1, 0);
        return x;
    }

    private static void mendedStays() {
        Floats x = mendedGap();
        rowDue("mended", x, 0, 2, 2, 100002, 100003);
        x.level(0);
        x.level(1);
        due("the readings are corrected otherwise", x.hour(0, 4, 1), 100000);
        rowDue("when both are levelled", x, 0, 2, 2, 100002, 100003);
        x.turn(0, false);
        x.pass(1);
        x.turn(0, true);
        x.pass(1);
        due("mend another gap", x.mend(0, 1, 1, 0), 1);
        rowDue("when another gap is mended", x, 0, 2, 2, 100002, 100003);
        x.turn(1, false);
        x.pass(112);
        rowDue("when all hours have passed", x, 0, 2, 2, 100002, 100003);
    }

    private static void mendedAnew() {
        Floats x = mendedGap();
        x.level(0);
        x.level(1);
        due("mend(0, 0, 1, 0)", x.mend(0, 0, 1, 0), 2);
        rowDue("by readings that are corrected now", x, 0, 2, 2, 100000, 100000);
        due("as many hours as before", x.station(0, 11), 2);
        due("mend(0, 0, 2, 0)", x.mend(0, 0, 2, 0), 2);
        rowDue("by another neighbour: 1 + 0 - 2 / 3 and 1 + 0 - 4 / 3", x, 0, 2, 2, 100000, 99999);
    }

    private static void forgotten() {
        Floats x = mendedGap();
        due("forget(0)", x.forget(0), 2);
        rowDue("there is no value", x, 0, 2, 2, NONE, NONE);
        rowDue("in a gap and not mended", x, 0, 2, 4, 1, 1);
        due("the gap is there", x.gap(0, 0, 1), 3);
        due("hours of it that are mended", x.gap(0, 0, 3), 0);
        due("forget(0) again", x.forget(0), NONE);
    }

    private static void mendedIsNoReading() {
        Floats x = mendedGap();
        rowDue("no reading", x, 0, 2, 0, NONE, NONE);
        rowDue("no corrected reading", x, 0, 2, 1, NONE, NONE);
        due("readings", x.station(0, 9), 4);
        due("readings of all", x.count(2), 16);
        x.turn(1, false);
        x.pass(1);
        x.turn(1, true);
        x.pass(1);
        due("the station 1 has a gap at 6", x.gap(1, 0, 0), 6);
        due("by 0 at 4 to 6", x.mend(1, 0, 0, -1), 1);
        due("by 0 at 3 to 5, where 3 is mended", x.mend(1, 0, 0, -2), NOT_POSSIBLE);
        due("misfit, where 3 is mended", x.misfit(1, 0, 0, -2), NONE);
        due("by 0 at 0 to 2, where 2 is mended", x.mend(1, 0, 0, -5), NOT_POSSIBLE);
    }

    // ---- misfits and best phases

    private static void misfits() {
        Checks.said("over all hours h from i - 11 to i", TermsTest::misfitAhead);
        Checks.said("and from k + 1 to k + 12", TermsTest::misfitBehind);
        Checks.said("at which the station has readings at h and h - 1", TermsTest::misfitOfReadings);
        Checks.said("and the neighbour at h + f and h + f - 1", TermsTest::misfitOfTheNeighboursReadings);
        Checks.said("readings at h and h - 1: at the first hours and the last ones", TermsTest::misfitAtTheEnds);
        Checks.said("of the size of", TermsTest::misfitOfSizes);
        Checks.said("with c the corrected readings of the station and u those of the neighbour",
                TermsTest::misfitOfCorrectedReadings);
        Checks.said("of those from -12 to 12 with which the gap can be mended", TermsTest::possiblePhases);
        Checks.said("the one with the least misfit", TermsTest::leastMisfit);
        Checks.said("of several the one that is the least without its sign", TermsTest::leastPhase);
        Checks.said("then the one below 0", TermsTest::phaseBelow0);
    }

    private static final String[] GAP_AT_21 = {Floats.row(45, 21, 22), Floats.row(45)};

    /** The sea is flat, and the readings of a station rise by 1 at an hour. */
    private static Floats stepAt(int station, int hour, String... rows) {
        Floats x = Floats.flat();
        passTo(x, hour - 1, rows);
        x.setRate(station, true, 1);
        passTo(x, hour, rows);
        x.setRate(station, true, 0);
        passTo(x, rows[0].length(), rows);
        return x;
    }

    private static void passTo(Floats x, int hour, String... rows) {
        String[] parts = new String[rows.length];
        int now = x.count(0);
        for (int s = 0; s < rows.length; s++) {
            parts[s] = rows[s].substring(now, hour);
        }
        x.passRows(parts);
    }

    private static void misfitAhead() {
        for (int f = -12; f <= 12; f += 4) {
            due("a step at i - 12, phase " + f, stepAt(0, 8, GAP_AT_21).misfit(0, 0, 1, f), 0);
            due("a step at i - 11, phase " + f, stepAt(0, 9, GAP_AT_21).misfit(0, 0, 1, f), 9 + f - 1 >= 0 ? 1 : 0);
            due("a step at i, phase " + f, stepAt(0, 20, GAP_AT_21).misfit(0, 0, 1, f), 1);
            due("a step at i + 1, phase " + f, stepAt(0, 21, GAP_AT_21).misfit(0, 0, 1, f), 0);
        }
        for (int f = -6; f <= 12; f += 3) {
            due("a step of the neighbour at i - 12", stepAt(1, 8 + f, GAP_AT_21).misfit(0, 0, 1, f), 0);
            due("a step of the neighbour at i - 11", stepAt(1, 9 + f, GAP_AT_21).misfit(0, 0, 1, f), 1);
            due("a step of the neighbour at i", stepAt(1, 20 + f, GAP_AT_21).misfit(0, 0, 1, f), 1);
            due("a step of the neighbour at i + 1", stepAt(1, 21 + f, GAP_AT_21).misfit(0, 0, 1, f), 0);
        }
    }

    private static void misfitBehind() {
        for (int f = -12; f <= 8; f += 4) {
            due("a step at k, phase " + f, stepAt(0, 23, GAP_AT_21).misfit(0, 0, 1, f), 0);
            due("a step at k + 1, phase " + f, stepAt(0, 24, GAP_AT_21).misfit(0, 0, 1, f), 1);
            due("a step at k + 12, phase " + f, stepAt(0, 35, GAP_AT_21).misfit(0, 0, 1, f), 1);
            due("a step at k + 13, phase " + f, stepAt(0, 36, GAP_AT_21).misfit(0, 0, 1, f), 0);
            due("a step of the neighbour at k", stepAt(1, 23 + f, GAP_AT_21).misfit(0, 0, 1, f), 0);
            due("a step of the neighbour at k + 1", stepAt(1, 24 + f, GAP_AT_21).misfit(0, 0, 1, f), 1);
            due("a step of the neighbour at k + 12", stepAt(1, 35 + f, GAP_AT_21).misfit(0, 0, 1, f), 1);
            due("a step of the neighbour at k + 13", stepAt(1, 36 + f, GAP_AT_21).misfit(0, 0, 1, f), 0);
        }
    }

    private static void misfitOfReadings() {
        String[] rows = {Floats.row(45, 12, 21, 22, 30), Floats.row(45)};
        int[] steps = {11, 12, 13, 14, 29, 30, 31, 32};
        int[] wants = {1, 0, 0, 1, 1, 0, 0, 1};
        for (int i = 0; i < steps.length; i++) {
            due("off at 12 and 30, a step at " + steps[i], stepAt(0, steps[i], rows).misfit(0, 1, 1, 0), wants[i]);
        }
        Floats x = stepAt(0, 13, rows);
        x.mend(0, 0, 2, 0);
        due("what is mended at 12 is no reading", x.misfit(0, 1, 1, 0), 0);
    }

    private static void misfitOfTheNeighboursReadings() {
        int[] steps = {11, 12, 13, 14, 29, 30, 31, 32};
        int[] wants = {1, 0, 0, 1, 1, 0, 0, 1};
        for (int f = -2; f <= 3; f += 5) {
            String[] rows = {Floats.row(45, 21, 22), Floats.row(45, 12 + f, 30 + f)};
            for (int i = 0; i < steps.length; i++) {
                due("the neighbour off at 12 + f and 30 + f, phase " + f + ", a step at " + steps[i],
                        stepAt(0, steps[i], rows).misfit(0, 0, 1, f), wants[i]);
            }
        }
    }

    private static void misfitAtTheEnds() {
        String[] early = {Floats.row(20, 3), Floats.row(20)};
        due("a step at 1, phase 0", stepAt(0, 1, early).misfit(0, 0, 1, 0), 1);
        due("a step at 1, phase -1: the neighbour at 0 and -1", stepAt(0, 1, early).misfit(0, 0, 1, -1), 0);
        due("a step at 2, phase -1: the neighbour at 1 and 0", stepAt(0, 2, early).misfit(0, 0, 1, -1), 1);
        String[] late = {Floats.row(20, 15), Floats.row(20)};
        due("a step at 19, the last one, phase 0", stepAt(0, 19, late).misfit(0, 0, 1, 0), 1);
        due("a step at 19, phase 1: the neighbour at 20", stepAt(0, 19, late).misfit(0, 0, 1, 1), 0);
        due("a step at 18, phase 1: the neighbour at 19", stepAt(0, 18, late).misfit(0, 0, 1, 1), 1);
        String[] last = {Floats.row(120, 115), Floats.row(120)};
        due("a step at 119, phase 0", stepAt(0, 119, last).misfit(0, 0, 1, 0), 1);
        due("a step at 119, phase 1: the neighbour at 120", stepAt(0, 119, last).misfit(0, 0, 1, 1), 0);
        Floats least = Floats.flatWith("+-+");
        due("nothing to be compared", least.misfit(0, 0, 1, 0), 0);
    }

    private static void misfitOfSizes() {
        Floats x = Floats.flat();
        passTo(x, 9, GAP_AT_21);
        x.setRate(0, true, 1);
        passTo(x, 10, GAP_AT_21);
        x.setRate(0, true, 0);
        passTo(x, 14, GAP_AT_21);
        x.setRate(1, true, 1);
        passTo(x, 15, GAP_AT_21);
        x.setRate(1, true, 0);
        passTo(x, 45, GAP_AT_21);
        due("a step of each", x.misfit(0, 0, 1, 0), 2);
        due("both at once", x.misfit(0, 0, 1, 5), 0);
    }

    private static void misfitOfCorrectedReadings() {
        Floats x = Floats.flat();
        x.setRate(0, true, 1);
        x.setRate(1, true, 1);
        x.setRate(2, true, 1);
        x.passRows("++++-+++");
        due("none is levelled", x.misfit(0, 0, 1, 0), 0);
        x.level(0);
        due("the station is levelled: 3 hours ahead of the gap and 2 behind it", x.misfit(0, 0, 1, 0), 5);
        x.level(1);
        due("both are levelled", x.misfit(0, 0, 1, 0), 0);
        due("by one that is not", x.misfit(0, 0, 2, 0), 5);
    }

    private static Floats neighbourOnAt(int from, int to) {
        StringBuilder row = new StringBuilder("-".repeat(45));
        for (int h = from; h <= to; h++) {
            row.setCharAt(h, '+');
        }
        return Floats.flatWith(GAP_AT_21[0], row.toString());
    }

    private static void possiblePhases() {
        due("-12", neighbourOnAt(0, 11).bestPhase(0, 0, 1), 88);
        due("-12 is mended", neighbourOnAt(0, 11).mend(0, 0, 1, -12), 2);
        due("no -13", neighbourOnAt(0, 10).bestPhase(0, 0, 1), NONE);
        due("-12 with no more than it needs", neighbourOnAt(8, 11).bestPhase(0, 0, 1), 88);
        due("less than it needs", neighbourOnAt(9, 11).bestPhase(0, 0, 1), NONE);
        due("12", neighbourOnAt(32, 44).bestPhase(0, 0, 1), 112);
        due("12 is mended", neighbourOnAt(32, 44).mend(0, 0, 1, 12), 2);
        due("no 13", neighbourOnAt(33, 44).bestPhase(0, 0, 1), NONE);
        due("12 with no more than it needs", neighbourOnAt(32, 35).bestPhase(0, 0, 1), 112);
        due("less than it needs", neighbourOnAt(32, 34).bestPhase(0, 0, 1), NONE);
    }

    private static void leastMisfit() {
        for (int f = -12; f <= 12; f += 3) {
            Floats x = wave(500, 29, 3);
            x.setWave(1, 300, 47, 9);
            x.setStation(0, 12 - Math.max(f, 0), 100, 0);
            x.setStation(1, Math.min(12, 12 + f), 100, 40);
            x.passRows(Floats.row(60, 30, 31, 32), Floats.row(60));
            due("delays that differ by " + f, x.bestPhase(0, 0, 1), 100 + f);
            due("its misfit", x.misfit(0, 0, 1, f), 0);
        }
    }

    /** A sea of a short period, so that several phases fit as well. */
    private static Floats shortWaves(int period, int delay) {
        Floats x = wave(1200, period, 0);
        x.setStation(0, 0, 100, 0);
        x.setStation(1, delay, 100, 0);
        x.passRows(Floats.row(60, 30, 31), Floats.row(60));
        return x;
    }

    private static void leastPhase() {
        due("0 of -12, -8, .. 12", shortWaves(4, 0).bestPhase(0, 0, 1), 100);
        due("1 of -11, -7, -3, 1, 5, 9", shortWaves(4, 1).bestPhase(0, 0, 1), 101);
        due("-1 of -9, -5, -1, 3, 7, 11", shortWaves(4, 3).bestPhase(0, 0, 1), 99);
        due("2 of -10, -4, 2, 8", shortWaves(6, 2).bestPhase(0, 0, 1), 102);
        due("-2 of -8, -2, 4, 10", shortWaves(6, 4).bestPhase(0, 0, 1), 98);
        due("of all, with a flat sea", neighbourOnAt(0, 44).bestPhase(0, 0, 1), 100);
        due("of 2 and more", neighbourOnAt(22, 44).bestPhase(0, 0, 1), 102);
        due("of -2 and less", neighbourOnAt(0, 21).bestPhase(0, 0, 1), 98);
    }

    private static void phaseBelow0() {
        due("-1 of -1 and 1", shortWaves(2, 1).bestPhase(0, 0, 1), 99);
        due("-2 of -2 and 2", shortWaves(4, 2).bestPhase(0, 0, 1), 98);
        due("-6 of -6 and 6", shortWaves(12, 6).bestPhase(0, 0, 1), 94);
        due("-12 of -12 and 12", shortWaves(24, 12).bestPhase(0, 0, 1), 88);
        Floats x = Floats.flatWith(GAP_AT_21[0], GAP_AT_21[0]);
        due("-3 of -3 and 3", x.bestPhase(0, 0, 1), 97);
    }

    // ---- texts

    private static void texts() {
        Checks.said("a text of at most 60 characters", TermsTest::atMost60Characters);
        Checks.said("empty at first", TermsTest::emptyAtFirst);
        Checks.said("one or more orders with \";\" between two", TermsTest::orders);
        Checks.said("\"p\" and a number of hours (1 to 99; one or two digits, the first one not 0)", TermsTest::hoursOfOrders);
        Checks.said("or \"x\", \"o\", \"c\" or \"l\" and a station (0 to 2)", TermsTest::stationsOfOrders);
        Checks.said("it is off, it is on, its pipe is cleaned (the silt is 0 then), it is levelled", TermsTest::doneByOrders);
        Checks.said("the index, from 0, of the first character that is not allowed at its place", TermsTest::faults);
        Checks.said("or the length of the text if it ends too early", TermsTest::textsThatEndTooEarly);
        Checks.said("(the empty text does)", TermsTest::theEmptyText);
    }

    private static void fault(String text, int fault) {
        Floats x = new Floats();
        String before = x.state();
        due("follow() of \"" + text + "\"", x.followed(text), -100 - fault);
        due("the state then", x.state(), before);
        due("the history then", x.count(5), 0);
        due("the text stays", x.count(6), text.length());
    }

    private static void followed(String text, int orders) {
        Floats x = new Floats();
        due("follow() of \"" + text + "\"", x.followed(text), orders);
        due("the text stays", x.count(6), text.length());
    }

    private static void atMost60Characters() {
        Floats x = new Floats();
        x.write("x0;".repeat(19));
        due("the character 58", x.type('p'), 58);
        due("the character 59", x.type('1'), 59);
        due("the character 60", x.type('1'), 60);
        due("the character 61", x.type('1'), FULL);
        due("the length", x.count(6), 60);
        due("what is typed last is not in it", x.follow(), 20);
        due("the hour", x.count(0), 11);
        due("all of them", x.clearText(), 60);
        due("there is room again", x.type('x'), 1);
    }

    private static void emptyAtFirst() {
        due("the length", new Floats().count(6), 0);
        due("clearText()", new Floats().clearText(), 0);
        due("follow()", new Floats().follow(), -100);
        due("the first character", new Floats().type('x'), 1);
    }

    private static void orders() {
        followed("x0", 1);
        followed("x0;x1", 2);
        followed("x0;p1;o0", 3);
        followed("x0;".repeat(19) + "x0", 20);
        fault(";", 0);
        fault(";x0", 0);
        fault("x0;;x1", 3);
        fault("x0x1", 2);
        fault("p1x1", 2);
        fault("p11x1", 3);
        fault("x0,x1", 2);
        fault("x0 ;x1", 2);
        fault("x0; x1", 3);
    }

    private static void hoursOfOrders() {
        int[] hours = {1, 2, 9, 10, 11, 19, 20, 90, 99};
        for (int h : hours) {
            Floats x = new Floats();
            due("p" + h, x.followed("p" + h), 1);
            due("the hour", x.count(0), h);
        }
        fault("p0", 1);
        fault("p00", 1);
        fault("p01", 1);
        fault("p100", 3);
        fault("p111", 3);
        fault("p1/", 2);
        fault("p1:", 2);
        fault("p/", 1);
        fault("p:", 1);
        fault("p-1", 1);
        fault("p1p", 2);
        fault("x0;p0", 4);
    }

    private static void stationsOfOrders() {
        for (char letter : "xocl".toCharArray()) {
            followed(letter + "0", 1);
            followed(letter + "1", 1);
            followed(letter + "2", 1);
            fault(letter + "3", 1);
            fault(letter + "/", 1);
            fault(letter + "9", 1);
            fault(letter + "-1", 1);
            fault(letter + "00", 2);
            fault(letter + "12", 2);
        }
        for (char letter : "abdefghijkmnqrstuvwyzXOCLP0129".toCharArray()) {
            fault(letter + "0", 0);
        }
    }

    private static void doneByOrders() {
        for (int s = 0; s < 3; s++) {
            Floats x = new Floats();
            x.setRate(s, false, 1);
            x.setRate(s, true, 1);
            due("off, and on again", x.followed("p2;x" + s + ";p3;o" + s + ";p1"), 5);
            due("a gap", x.gap(s, 0, 0), 2);
            due("to", x.gap(s, 0, 1), 4);
            due("the readings", x.station(s, 9), 3);
            due("the readings of another station", x.station((s + 1) % 3, 9), 6);
            due("the silt", x.station(s, 4), 6);
            due("cleaned", x.followed("c" + s), 1);
            due("the silt is 0 then", x.station(s, 4), 0);
            due("it grows anew", x.followed("p2"), 1);
            due("the silt", x.station(s, 4), 2);
            due("levelled", x.followed("l" + s), 1);
            due("two notes", x.station(s, 12), 2);
            due("one of another station", x.station((s + 1) % 3, 12), 1);
            due("the correction", x.hour(s, 7, 3), 7);
        }
    }

    private static void faults() {
        fault("q", 0);
        fault("x0;q", 3);
        fault("x0;xx;pp", 4);
        fault("x3;p0", 1);
        fault("x0;".repeat(19) + "x0q", 59);
        fault("x0;".repeat(19) + "p0;", 58);
        fault("q" + "x0;".repeat(19), 0);
        char[] others = {0, 31, 127, 128, 255, 'x' + 256, 'p' + 256, 'l' + 512, 65535};
        for (char other : others) {
            fault(other + "0", 0);
        }
        fault("x" + (char) ('0' + 256), 1);
        fault("p1" + (char) ('1' + 256), 2);
        fault("p1" + (char) (';' + 256) + "x0", 2);
        fault("x0" + (char) (';' + 256) + "x0", 2);
    }

    private static void textsThatEndTooEarly() {
        fault("p", 1);
        fault("x", 1);
        fault("o", 1);
        fault("c", 1);
        fault("l", 1);
        fault("p1;", 3);
        fault("p12;", 4);
        fault("l2;", 3);
        fault("x0;o", 4);
        fault("x0;p", 4);
        fault("x0;".repeat(20), 60);
        fault("x0;".repeat(19) + "p1;", 60);
        fault("x0;".repeat(18) + "p10;pp".substring(0, 5), 59);
    }

    private static void theEmptyText() {
        fault("", 0);
        Floats x = new Floats();
        x.write("x0");
        x.clearText();
        due("emptied", x.follow(), -100);
        due("it is on", x.station(0, 8), 1);
    }

    // ---- history

    private static void history() {
        Checks.said("A history of at most 4 states is kept", TermsTest::atMost4States);
        Checks.said("when one more is recorded, the oldest one is dropped", TermsTest::oldestIsDropped);
        Checks.said("undo() removes and restores the latest one", TermsTest::latestIsRestored);
        Checks.said("undo() restores the numbers of all waves and stations", TermsTest::numbersAreRestored);
        Checks.said("undo() restores what hours to come go by", TermsTest::hoursToComeAreRestored);
        Checks.said("Each call of a method that is described as an act records the state that was before it",
                TermsTest::actsAreRecorded);
        Checks.said("and returns no error and not NONE", TermsTest::noneIsNotRecorded);
        Checks.said("(what is no act records nothing)", TermsTest::othersAreNotRecorded);
        Checks.said("There is one snapshot, empty at first", TermsTest::oneSnapshot);
        Checks.said("A state is everything but the text", TermsTest::textIsNoState);
        Checks.said("A state is everything but the history", TermsTest::historyIsNoState);
        Checks.said("A state is everything but the snapshot", TermsTest::snapshotIsNoState);
    }

    private static void atMost4States() {
        Floats x = new Floats();
        due("at first", x.count(5), 0);
        int[] states = {1, 2, 3, 4, 4, 4, 4, 4, 4};
        for (int i = 0; i < states.length; i++) {
            x.pass(1);
            due("after the act " + (i + 1), x.count(5), states[i]);
        }
    }

    private static void oldestIsDropped() {
        Floats x = new Floats();
        String[] states = new String[6];
        for (int i = 0; i < 5; i++) {
            states[i] = x.state();
            x.pass(1);
        }
        for (int i = 4; i >= 1; i--) {
            due("undo()", x.undo(), i - 1);
            due("the state " + i, x.state(), states[i]);
        }
        due("the state 0 is dropped", x.undo(), NONE);
        due("the hour", x.count(0), 1);
        x.pass(5);
        due("undo() of a new act", x.undo(), 0);
        due("the hour", x.count(0), 1);
    }

    private static void latestIsRestored() {
        Floats x = new Floats();
        due("an empty history", x.undo(), NONE);
        x.pass(1);
        x.turn(0, false);
        due("undo()", x.undo(), 1);
        due("it is on", x.station(0, 8), 1);
        due("the hour", x.count(0), 1);
        x.turn(1, false);
        due("undo()", x.undo(), 1);
        due("undo()", x.undo(), 0);
        due("the hour", x.count(0), 0);
        due("an empty history", x.undo(), NONE);
    }

    private static void numbersAreRestored() {
        Floats x = new Floats();
        String atFirst = x.state();
        for (int i = 0; i < 3; i++) {
            due("setWave(" + i + ", ..)", x.setWave(i, 0, 24, 1), i == 0 ? 100000 : 99000);
            x.undo();
            due("the wave " + i + " is as before", x.state(), atFirst);
            x.setStation(i, 3, 70, 7);
            x.undo();
            due("the station " + i + " is as before", x.state(), atFirst);
        }
    }

    private static void hoursToComeAreRestored() {
        Floats x = Floats.flat();
        x.setRate(0, true, 1);
        x.setRate(0, false, 1);
        x.pass(4);
        x.level(0);
        x.clean(0);
        x.setRate(0, true, 0);
        x.setRate(0, false, 0);
        for (int left = 3; left >= 0; left--) {
            due("undo()", x.undo(), left);
        }
        x.pass(2);
        due("the correction behind a note that is undone", x.hour(0, 5, 3), 0);
        due("the silt when cleaning is undone", x.station(0, 4), 6);
        due("the reading when a rate is undone", x.hour(0, 5, 0), 100005);
        due("a note behind one that is undone", x.level(0), 6);
        due("the correction between them", x.hour(0, 5, 3), 5);
        due("the notes", x.station(0, 12), 2);
    }

    private static void actsAreRecorded() {
        String[] names = {"setRate", "setRate", "turn off", "turn on", "clean", "level", "pass", "follow", "mend",
            "mend anew", "forget", "restore", "setWave", "setStation"};
        for (int act = 0; act < names.length; act++) {
            Floats x = act < 12 ? Rich.floats() : new Floats();
            for (int i = 0; i < 3; i++) {
                x.undo();
            }
            String before = x.state();
            int states = x.count(5);
            Checks.isTrue(names[act] + " answers no error", doAct(x, act) >= 0);
            due(names[act] + ": the states", x.count(5), states + 1);
            Checks.isTrue(names[act] + " changes something", !before.equals(x.state()));
            due(names[act] + ": undo()", x.undo(), states);
            due(names[act] + ": the state when it is undone", x.state(), before);
        }
    }

    private static int doAct(Floats x, int act) {
        switch (act) {
            case 0: return x.setRate(2, true, 20);
            case 1: return x.setRate(2, false, 20);
            case 2: return x.turn(0, false);
            case 3: return x.turn(2, true);
            case 4: return x.clean(0);
            case 5: return x.level(0);
            case 6: return x.pass(1);
            case 7: return x.follow();
            case 8: return x.mend(0, 1, 1, 1);
            case 9: return x.mend(0, 0, 1, 1);
            case 10: return x.forget(0);
            case 11: return x.restore();
            case 12: return x.setWave(2, 1, 24, 0);
            default: return x.setStation(2, 2, 100, 1);
        }
    }

    private static void noneIsNotRecorded() {
        Floats x = new Floats();
        x.pass(1);
        int[] answers = {x.setRate(0, true, 0), x.setRate(0, false, 0), x.turn(0, true), x.clean(0), x.forget(0),
            x.restore(), x.level(3), x.pass(120), x.pass(0), x.follow(), x.mend(0, 0, 1, 0), x.setWave(0, 1, 2, 3),
            x.setStation(0, 1, 100, 1), x.turn(-1, false), x.setRate(0, true, 21)};
        for (int i = 0; i < answers.length; i++) {
            Checks.isTrue("the call " + i + " returns an error or NONE", answers[i] < 0);
        }
        due("the states", x.count(5), 1);
        due("level(0)", x.level(0), 0);
        due("level(0) again", x.level(0), NONE);
        due("the states", x.count(5), 2);
        Floats first = new Floats();
        due("setWave", first.setWave(1, 0, 24, 0), NONE);
        due("setStation", first.setStation(1, 1, 100, 0), NONE);
        due("level", first.level(2), NONE);
        due("the states", first.count(5), 0);
    }

    private static void othersAreNotRecorded() {
        Floats x = new Floats();
        x.pass(1);
        x.keep();
        x.type('p');
        x.clearText();
        due("keep, type and clearText", x.count(5), 1);
        x.turn(0, false);
        x.undo();
        due("undo", x.count(5), 1);
        due("undo() undoes no undo()", x.undo(), 0);
        due("the hour", x.count(0), 0);
    }

    private static void oneSnapshot() {
        Floats x = new Floats();
        due("empty at first", x.restore(), NONE);
        x.pass(3);
        due("still empty", x.restore(), NONE);
        due("keep()", x.keep(), 3);
        x.pass(4);
        due("keep()", x.keep(), 7);
        x.pass(5);
        due("the later one", x.restore(), 7);
        due("it stays", x.restore(), 7);
        x.pass(113);
        due("at the last hour", x.keep(), 120);
        x.undo();
        due("back at it", x.restore(), 120);
    }

    private static void textIsNoState() {
        Floats x = new Floats();
        x.write("x0");
        x.keep();
        x.pass(1);
        x.write("x1;p1");
        x.undo();
        due("undo leaves the text", x.count(6), 5);
        x.restore();
        due("restore leaves the text", x.count(6), 5);
        due("it is what was typed", x.follow(), 2);
        due("it is followed", x.station(1, 8), 0);
        due("and not the former one", x.station(0, 8), 1);
        x.clearText();
        x.undo();
        due("undo brings no text", x.count(6), 0);
    }

    private static void historyIsNoState() {
        Floats x = new Floats();
        x.keep();
        x.pass(1);
        x.pass(1);
        due("restore()", x.restore(), 0);
        due("restore leaves the history, and is recorded", x.count(5), 3);
        due("undo()", x.undo(), 2);
        due("the hour", x.count(0), 2);
        due("undo()", x.undo(), 1);
        due("the hour", x.count(0), 1);
    }

    private static void snapshotIsNoState() {
        Floats x = new Floats();
        x.pass(2);
        x.pass(2);
        x.keep();
        x.undo();
        due("undo leaves the snapshot", x.restore(), 4);
        x.undo();
        x.undo();
        due("the hour", x.count(0), 0);
        due("undo of all leaves the snapshot", x.restore(), 4);
        x.pass(6);
        x.keep();
        x.undo();
        x.undo();
        due("undo brings no former snapshot", x.restore(), 10);
    }
}

/**
 * Promise by promise: the least and the greatest of each argument and those just beyond, what is answered
 * at each bound, and, where several errors can apply, the one that is checked first. Each on an object of its own.
 */
public final class BoundsTest {
    private static final int UNKNOWN = SiltedFloats.UNKNOWN;
    private static final int BAD_VALUE = SiltedFloats.BAD_VALUE;
    private static final int FULL = SiltedFloats.FULL;
    private static final int NOT_POSSIBLE = SiltedFloats.NOT_POSSIBLE;
    private static final int NONE = SiltedFloats.NONE;
    private static final int LEAST = Integer.MIN_VALUE;
    private static final int MOST = Integer.MAX_VALUE;
    /** Numbers that some arithmetic would wrap to small ones. */
    private static final int[] FAR = {LEAST, LEAST + 1, -65536, 65536, 1 << 30, MOST - 1, MOST};

    public static void main(String[] args) {
        Checks.said("Promise 1: a new object", BoundsTest::newObject);
        Checks.said("Promise 2: setWave", BoundsTest::setWave);
        Checks.said("Promise 2: setWave, the order of the checks", BoundsTest::setWaveOrder);
        Checks.said("Promise 3: setStation", BoundsTest::setStation);
        Checks.said("Promise 3: setStation, the order of the checks", BoundsTest::setStationOrder);
        Checks.said("Promise 4: setRate", BoundsTest::setRate);
        Checks.said("Promise 5: turn", BoundsTest::turn);
        Checks.said("Promise 6: clean", BoundsTest::clean);
        Checks.said("Promise 7: level", BoundsTest::level);
        Checks.said("Promise 8: pass", BoundsTest::pass);
        Checks.said("Promise 9: follow, returns how many there are", BoundsTest::follow);
        Checks.said("Promise 9: follow, -100 minus the fault", BoundsTest::followFaults);
        Checks.said("Promise 9: follow, FULL", BoundsTest::followFull);
        Checks.said("Promise 9: follow, all of them, or none", BoundsTest::followAllOrNone);
        Checks.said("Promise 9: follow, an order that would return NONE does nothing", BoundsTest::followNone);
        Checks.said("Promise 10: mend", BoundsTest::mend);
        Checks.said("Promise 10: mend, the order of the checks", BoundsTest::mendOrder);
        Checks.said("Promise 11: forget", BoundsTest::forget);
        Checks.said("Promise 12: type", BoundsTest::type);
        Checks.said("Promise 13: clearText", BoundsTest::clearText);
        Checks.said("Promise 14: undo", BoundsTest::undo);
        Checks.said("Promise 15: keep", BoundsTest::keep);
        Checks.said("Promise 16: restore", BoundsTest::restore);
        Checks.said("Promise 17: sea", BoundsTest::sea);
        Checks.said("Promise 18: outside", BoundsTest::outside);
        Checks.said("Promise 19: station", BoundsTest::station);
        Checks.said("Promise 20: hour", BoundsTest::hour);
        Checks.said("Promise 20: hour, NONE if there is none", BoundsTest::hourNone);
        Checks.said("Promise 20: hour, the order of the checks", BoundsTest::hourOrder);
        Checks.said("Promise 21: gap", BoundsTest::gap);
        Checks.said("Promise 22: misfit", BoundsTest::misfit);
        Checks.said("Promise 22: misfit, the order of the checks", BoundsTest::misfitOrder);
        Checks.said("Promise 23: bestPhase", BoundsTest::bestPhase);
        Checks.said("Promise 24: high, its rank", BoundsTest::highRank);
        Checks.said("Promise 24: high, greater than both", BoundsTest::highGreater);
        Checks.said("Promise 24: high, all three being there", BoundsTest::highAllThree);
        Checks.said("Promise 24: high, corrected or mended", BoundsTest::highValues);
        Checks.said("Promise 25: count", BoundsTest::count);
        Checks.end();
    }

    private static void due(String call, long got, long want) {
        Checks.due(call, got, want);
    }

    private static Floats at(int hour) {
        Floats x = new Floats();
        if (hour > 0) {
            x.pass(hour);
        }
        return x;
    }

    /** A flat sea; the station 0 has an inner gap at 13 and 14 and one at 29 that is none; 30 hours have passed. */
    private static Floats withGaps() {
        return Floats.flatWith(Floats.row(30, 13, 14, 29));
    }

    // ---- the promises

    private static void newObject() {
        Floats x = new Floats();
        int[] counts = {0, 3, 0, 0, 0, 0, 0};
        for (int what = 0; what < counts.length; what++) {
            due("count(" + what + ")", x.count(what), counts[what]);
        }
        for (int s = 0; s < 3; s++) {
            int[] numbers = {s, 100, 100000, s == 0 ? 99000 : s == 1 ? 99334 : 99667, 0, 0, 0, 0, 1, 0, 0, 0, 1};
            for (int what = 0; what < numbers.length; what++) {
                due("station(" + s + ", " + what + ")", x.station(s, what), numbers[what]);
            }
            due("hour(" + s + ", 0, 0)", x.hour(s, 0, 0), NONE);
            due("gap(" + s + ", 0, 0)", x.gap(s, 0, 0), UNKNOWN);
            due("high(" + s + ", 0)", x.high(s, 0), NONE);
            due("forget(" + s + ")", x.forget(s), NONE);
        }
        due("undo()", x.undo(), NONE);
        due("restore()", x.restore(), NONE);
        due("follow()", x.follow(), -100);
        due("clearText()", x.clearText(), 0);
        due("one object leaves another one as it is", at(5).count(0) - new Floats().count(0), 5);
    }

    private static void setWave() {
        due("the least of all", new Floats().setWave(0, 0, 2, 0), 100000);
        due("the greatest of all", new Floats().setWave(2, 3000, 48, 47), 100000 - 1000 + 9000 - 11750);
        for (int far : FAR) {
            due("setWave(" + far + ", 5, 5, 5)", new Floats().setWave(far, 5, 5, 5), UNKNOWN);
            due("setWave(0, " + far + ", 5, 5)", new Floats().setWave(0, far, 5, 5), BAD_VALUE);
            due("setWave(0, 5, " + far + ", 5)", new Floats().setWave(0, 5, far, 5), BAD_VALUE);
            due("setWave(0, 5, 5, " + far + ")", new Floats().setWave(0, 5, 5, far), BAD_VALUE);
        }
        due("all three are so", new Floats().setWave(0, 1000, 12, 0), NONE);
        due("the amplitude is not so", new Floats().setWave(0, 999, 12, 0), 99001);
        due("the period is not so", new Floats().setWave(0, 1000, 11, 0), 99000);
        due("the phase is not so", new Floats().setWave(0, 1000, 12, 12), 99000);
        Floats x = new Floats();
        x.setWave(0, 1000, 12, 12);
        due("so then", x.setWave(0, 1000, 12, 12), NONE);
        due("another wave is not", x.setWave(1, 1000, 12, 12), 98000);
        due("without any height", x.setWave(1, 0, 2, 0), 99000);
    }

    private static void setWaveOrder() {
        due("UNKNOWN, BAD_VALUE and NOT_POSSIBLE", at(1).setWave(3, 3001, 1, 48), UNKNOWN);
        due("UNKNOWN and BAD_VALUE", new Floats().setWave(-1, 0, 49, 0), UNKNOWN);
        due("UNKNOWN and NOT_POSSIBLE", at(1).setWave(-1, 1000, 12, 0), UNKNOWN);
        due("BAD_VALUE and NOT_POSSIBLE: the amplitude", at(1).setWave(0, 3001, 12, 0), BAD_VALUE);
        due("BAD_VALUE and NOT_POSSIBLE: the period", at(1).setWave(0, 1000, 1, 0), BAD_VALUE);
        due("BAD_VALUE and NOT_POSSIBLE: the phase", at(1).setWave(0, 1000, 12, 48), BAD_VALUE);
        due("NOT_POSSIBLE, where all three are so", at(1).setWave(0, 1000, 12, 0), NOT_POSSIBLE);
        due("NOT_POSSIBLE, at the last hour", at(120).setWave(0, 1, 2, 3), NOT_POSSIBLE);
    }

    private static void setStation() {
        due("the least of all", new Floats().setStation(0, 0, 10, -2000), 97900);
        due("the greatest of all", new Floats().setStation(2, 12, 200, 2000), 100000);
        for (int far : FAR) {
            due("setStation(" + far + ", 5, 50, 5)", new Floats().setStation(far, 5, 50, 5), UNKNOWN);
            due("setStation(0, " + far + ", 50, 5)", new Floats().setStation(0, far, 50, 5), BAD_VALUE);
            due("setStation(0, 5, " + far + ", 5)", new Floats().setStation(0, 5, far, 5), BAD_VALUE);
            due("setStation(0, 5, 50, " + far + ")", new Floats().setStation(0, 5, 50, far), BAD_VALUE);
        }
        due("all three are so", new Floats().setStation(1, 1, 100, 0), NONE);
        due("the delay is not so", new Floats().setStation(1, 0, 100, 0), 99000);
        due("the scale is not so", new Floats().setStation(1, 1, 50, 0), 99667);
        due("the offset is not so", new Floats().setStation(1, 1, 100, 1), 99335);
        Floats x = new Floats();
        x.setStation(1, 0, 100, 0);
        due("so then", x.setStation(1, 0, 100, 0), NONE);
        due("another station is so", x.setStation(0, 0, 100, 0), NONE);
        due("another one is not", x.setStation(2, 0, 100, 0), 99000);
    }

    private static void setStationOrder() {
        due("UNKNOWN, BAD_VALUE and NOT_POSSIBLE", at(1).setStation(3, 13, 9, 2001), UNKNOWN);
        due("UNKNOWN and BAD_VALUE", new Floats().setStation(-1, 0, 9, 0), UNKNOWN);
        due("UNKNOWN and NOT_POSSIBLE", at(1).setStation(-1, 0, 100, 0), UNKNOWN);
        due("BAD_VALUE and NOT_POSSIBLE: the delay", at(1).setStation(0, 13, 100, 0), BAD_VALUE);
        due("BAD_VALUE and NOT_POSSIBLE: the scale", at(1).setStation(0, 0, 201, 0), BAD_VALUE);
        due("BAD_VALUE and NOT_POSSIBLE: the offset", at(1).setStation(0, 0, 100, -2001), BAD_VALUE);
        due("NOT_POSSIBLE, where all three are so", at(1).setStation(0, 0, 100, 0), NOT_POSSIBLE);
        due("NOT_POSSIBLE, at the last hour", at(120).setStation(0, 1, 50, 1), NOT_POSSIBLE);
    }

    private static void setRate() {
        for (int i = 0; i < 2; i++) {
            boolean sinking = i == 1;
            for (int far : FAR) {
                due("the station " + far, new Floats().setRate(far, sinking, 5), UNKNOWN);
                due("hours " + far, new Floats().setRate(0, sinking, far), BAD_VALUE);
            }
            due("the station -1", new Floats().setRate(-1, sinking, 5), UNKNOWN);
            due("the station 3", new Floats().setRate(3, sinking, 5), UNKNOWN);
            due("hours -1", new Floats().setRate(2, sinking, -1), BAD_VALUE);
            due("hours 0", new Floats().setRate(2, sinking, 0), NONE);
            due("hours 1", new Floats().setRate(2, sinking, 1), 0);
            due("hours 20", new Floats().setRate(2, sinking, 20), 0);
            due("hours 21", new Floats().setRate(2, sinking, 21), BAD_VALUE);
            due("UNKNOWN and BAD_VALUE", new Floats().setRate(3, sinking, 21), UNKNOWN);
            due("UNKNOWN, where it would be so", new Floats().setRate(3, sinking, 0), UNKNOWN);
            Floats x = new Floats();
            x.setRate(2, sinking, 20);
            due("so already", x.setRate(2, sinking, 20), NONE);
            due("the other one is not", x.setRate(2, !sinking, 20), 0);
            due("of another station is not", x.setRate(1, sinking, 20), 0);
            due("the greatest previous one", x.setRate(2, sinking, 0), 20);
            due("so already", x.setRate(2, sinking, 0), NONE);
            due("the other one stays", x.station(2, sinking ? 5 : 6), 20);
        }
    }

    private static void turn() {
        for (int far : FAR) {
            due("the station " + far, new Floats().turn(far, false), UNKNOWN);
        }
        for (int s = -1; s <= 3; s += 4) {
            due("the station " + s + " off", new Floats().turn(s, false), UNKNOWN);
            due("the station " + s + " on", new Floats().turn(s, true), UNKNOWN);
        }
        for (int s = 0; s < 3; s++) {
            Floats x = new Floats();
            due("on already", x.turn(s, true), NONE);
            due("off", x.turn(s, false), 2);
            due("off already", x.turn(s, false), NONE);
            due("the next one off", x.turn((s + 1) % 3, false), 1);
            due("the last one off", x.turn((s + 2) % 3, false), 0);
            due("on", x.turn(s, true), 1);
            due("on already", x.turn(s, true), NONE);
        }
        Floats late = at(120);
        due("off at the last hour", late.turn(0, false), 2);
        due("all on at the last hour", late.turn(0, true), 3);
    }

    private static void clean() {
        for (int far : FAR) {
            due("the station " + far, new Floats().clean(far), UNKNOWN);
        }
        due("the station -1", new Floats().clean(-1), UNKNOWN);
        due("the station 3", new Floats().clean(3), UNKNOWN);
        for (int s = 0; s < 3; s++) {
            Floats x = new Floats();
            due("no silt", x.clean(s), NONE);
            x.setRate(s, false, 1);
            due("no silt yet", x.clean(s), NONE);
            x.pass(1);
            due("the least silt", x.clean(s), 1);
            due("no silt again", x.clean(s), NONE);
            x.pass(119);
            due("the greatest silt", x.clean(s), 90);
            due("no silt", x.station(s, 4), 0);
            due("it silts still", x.station(s, 5), 1);
        }
    }

    private static void level() {
        for (int far : FAR) {
            due("the station " + far, at(1).level(far), UNKNOWN);
        }
        due("the station -1", at(1).level(-1), UNKNOWN);
        due("the station 3", at(1).level(3), UNKNOWN);
        due("the station 3, at the hour 0", new Floats().level(3), UNKNOWN);
        for (int s = 0; s < 3; s++) {
            Floats x = new Floats();
            x.setRate(s, true, 1);
            due("noted at the hour 0", x.level(s), NONE);
            x.pass(1);
            due("at the hour 1", x.level(s), 1);
            due("at the hour 1 again", x.level(s), NONE);
            x.setRate(s, true, 0);
            x.pass(1);
            due("as much, but at the hour 2", x.level(s), 1);
            x.setRate(s, true, 1);
            x.pass(118);
            due("at the hour 120", x.level(s), 119);
            due("at the hour 120 again", x.level(s), NONE);
            due("the notes", x.station(s, 12), 4);
        }
        due("nothing sunk", at(1).level(0), 0);
        Floats all = new Floats();
        for (int h = 1; h <= 120; h++) {
            all.pass(1);
            all.level(1);
        }
        due("a note at each hour", all.station(1, 12), 121);
    }

    private static void pass() {
        for (int far : FAR) {
            due("pass(" + far + ")", new Floats().pass(far), BAD_VALUE);
            due("pass(" + far + ") at the last hour", at(120).pass(far), BAD_VALUE);
        }
        due("pass(-1)", new Floats().pass(-1), BAD_VALUE);
        due("pass(0)", new Floats().pass(0), BAD_VALUE);
        due("pass(1)", new Floats().pass(1), 1);
        due("pass(119)", new Floats().pass(119), 119);
        due("pass(120)", new Floats().pass(120), 120);
        due("pass(121)", new Floats().pass(121), BAD_VALUE);
        due("119 more than 1", at(1).pass(119), 120);
        due("120 more than 1", at(1).pass(120), FULL);
        due("1 more than 119", at(119).pass(1), 120);
        due("2 more than 119", at(119).pass(2), FULL);
        due("1 more than 120", at(120).pass(1), FULL);
        due("0 more than 120", at(120).pass(0), BAD_VALUE);
        due("121 more than 120: BAD_VALUE and FULL", at(120).pass(121), BAD_VALUE);
        Floats x = at(119);
        x.pass(2);
        due("FULL changes nothing", x.count(0), 119);
    }

    private static void follow() {
        due("the fewest", new Floats().followed("o0"), 1);
        due("two", new Floats().followed("o0;o0"), 2);
        due("the most", new Floats().followed("l0;".repeat(19) + "p99"), 20);
        due("at the last hour", at(120).followed("x0;c1;l2"), 3);
    }

    private static void followFaults() {
        due("the least fault", new Floats().followed(""), -100);
        due("the fault 0 of a text", new Floats().followed("?"), -100);
        due("the fault 1", new Floats().followed("x"), -101);
        due("the fault 59", new Floats().followed("p1;".repeat(19) + "p1?"), -159);
        due("the greatest fault", new Floats().followed("p1;".repeat(20)), -160);
        due("a fault, and too many hours", at(120).followed("p1;"), -103);
        due("a fault, and too many hours ahead of it", new Floats().followed("p99;p99;q"), -108);
        due("a fault ahead of too many hours", new Floats().followed("q;p99;p99"), -100);
    }

    private static void followFull() {
        due("120 hours", new Floats().followed("p60;p60"), 2);
        due("121 hours", new Floats().followed("p60;p61"), FULL);
        due("121 hours, the last one by itself", new Floats().followed("p99;p21;x0;p1"), FULL);
        due("to the hour 120", at(21).followed("p99"), 1);
        due("to the hour 121", at(22).followed("p99"), FULL);
        due("1 behind 119", at(119).followed("x0;p1"), 2);
        due("1 behind 120", at(120).followed("x0;p1"), FULL);
        due("far too many", new Floats().followed("p99;".repeat(14) + "p99"), FULL);
    }

    private static void followAllOrNone() {
        Floats x = new Floats();
        x.setRate(0, false, 1);
        x.setRate(0, true, 1);
        x.pass(21);
        String text = "x1;c0;l0;p50;o1;p50";
        x.write(text);
        String before = x.told();
        due("121 hours", x.follow(), FULL);
        Checks.due("all that is told", x.told(), before);
        x.write(text + ";");
        before = x.told();
        due("a fault at the end", x.follow(), -100 - text.length() - 1);
        Checks.due("all that is told", x.told(), before);
        x.undo();
        x.pass(20);
        due("120 hours", x.followed(text), 6);
        due("the hour", x.count(0), 120);
        due("the station 1 has a gap", x.gap(1, 0, 0), 20);
        due("to", x.gap(1, 0, 1), 69);
        due("it is on again", x.station(1, 8), 1);
        due("the station 0 was cleaned at 20", x.station(0, 4), 90);
        due("and levelled at 20", x.hour(0, 119, 3), 20);
        due("one act", x.count(5), 4);
        due("is undone", x.undo(), 3);
        due("as a whole", x.count(0), 20);
        due("with the silt", x.station(0, 4), 20);
        due("and the notes", x.station(0, 12), 1);
    }

    private static void followNone() {
        Floats x = new Floats();
        String before = x.state();
        due("on, clean and levelled already", x.followed("o0;c0;l0;o1;c1;l1;o2;c2;l2"), 9);
        Checks.due("the state", x.state(), before);
        due("off, and off already", x.followed("x0;x0"), 2);
        due("it is off", x.count(1), 2);
        due("off and on", x.followed("o0;x0;o0;o0"), 4);
        due("it is on", x.count(1), 3);
        Floats late = at(3);
        due("levelled twice", late.followed("l0;l0;p1;l0;l0"), 5);
        due("the notes", late.station(0, 12), 3);
    }

    private static void mend() {
        for (int far : FAR) {
            due("the station " + far, withGaps().mend(far, 0, 1, 0), UNKNOWN);
            due("the gap " + far, withGaps().mend(0, far, 1, 0), UNKNOWN);
            due("the neighbour " + far, withGaps().mend(0, 0, far, 0), UNKNOWN);
            due("the phase " + far, withGaps().mend(0, 0, 1, far), BAD_VALUE);
        }
        due("the station -1", withGaps().mend(-1, 0, 1, 0), UNKNOWN);
        due("the station 3", withGaps().mend(3, 0, 1, 0), UNKNOWN);
        due("the gap -1", withGaps().mend(0, -1, 1, 0), UNKNOWN);
        due("the gap 0", withGaps().mend(0, 0, 1, 0), 2);
        due("the gap 1, which is no inner one", withGaps().mend(0, 1, 1, 0), NOT_POSSIBLE);
        due("the gap 2", withGaps().mend(0, 2, 1, 0), UNKNOWN);
        due("the gap 0 of a station without gaps", withGaps().mend(1, 0, 0, 0), UNKNOWN);
        due("the neighbour -1", withGaps().mend(0, 0, -1, 0), UNKNOWN);
        due("the neighbour 0", withGaps().mend(0, 0, 0, 0), BAD_VALUE);
        due("the neighbour 2", withGaps().mend(0, 0, 2, 0), 2);
        due("the neighbour 3", withGaps().mend(0, 0, 3, 0), UNKNOWN);
        due("the phase -13", withGaps().mend(0, 0, 1, -13), BAD_VALUE);
        due("the phase -12: from 0 to 3", withGaps().mend(0, 0, 1, -12), 2);
        due("the phase 12: from 24 to 27", withGaps().mend(0, 0, 1, 12), 2);
        due("the phase 13", withGaps().mend(0, 0, 1, 13), BAD_VALUE);
        due("the fewest hours", Floats.flatWith("+-+").mend(0, 0, 2, 0), 1);
        Floats most = Floats.flatWith("+" + "-".repeat(118) + "+");
        due("the most hours", most.mend(0, 0, 2, 0), 118);
        due("they are mended", most.station(0, 11), 118);
    }

    private static void mendOrder() {
        Floats x = withGaps();
        due("no such station; the phase", x.mend(3, 0, 1, 13), UNKNOWN);
        due("no such gap; the phase", x.mend(0, 2, 1, 13), UNKNOWN);
        due("no such gap; the neighbour is the station", x.mend(0, 2, 0, 0), UNKNOWN);
        due("no such neighbour; the phase", x.mend(0, 0, 3, 13), UNKNOWN);
        due("no such neighbour; no inner gap", x.mend(0, 1, 3, 0), UNKNOWN);
        due("no such station and neighbour", x.mend(3, 0, 3, 0), UNKNOWN);
        due("the phase; no inner gap", x.mend(0, 1, 1, 13), BAD_VALUE);
        due("the phase; no inner gap", x.mend(0, 1, 1, -13), BAD_VALUE);
        due("the neighbour is the station; no inner gap", x.mend(0, 1, 0, 0), BAD_VALUE);
        due("the neighbour is the station, and lacks readings", x.mend(0, 0, 0, 0), BAD_VALUE);
        due("no inner gap, and no readings", x.mend(0, 1, 1, 12), NOT_POSSIBLE);
    }

    private static void forget() {
        for (int far : FAR) {
            due("the station " + far, withGaps().forget(far), UNKNOWN);
        }
        due("the station -1", withGaps().forget(-1), UNKNOWN);
        due("the station 3", withGaps().forget(3), UNKNOWN);
        Floats x = Floats.flatWith("+-+-+", "+++++");
        due("none was mended", x.forget(0), NONE);
        x.mend(0, 0, 1, 0);
        x.mend(0, 1, 1, 0);
        due("of another station none was", x.forget(1), NONE);
        due("both gaps", x.forget(0), 2);
        due("none is mended", x.forget(0), NONE);
        due("an hour of the gap 0", x.hour(0, 1, 4), 1);
        due("an hour of the gap 1", x.hour(0, 3, 4), 1);
        x.mend(0, 1, 1, 0);
        x.mend(0, 1, 2, 0);
        due("what was mended anew is mended once", x.forget(0), 1);
        Floats most = Floats.flatWith("+" + "-".repeat(118) + "+");
        most.mend(0, 0, 1, 0);
        due("the most hours", most.forget(0), 118);
    }

    private static void type() {
        Floats x = new Floats();
        char[] any = {0, 1, 10, 127, 128, 255, 256, 32767, 32768, 65534, 65535};
        for (int i = 0; i < any.length; i++) {
            due("type((char) " + (int) any[i] + ")", x.type(any[i]), i + 1);
        }
        for (int i = any.length + 1; i <= 60; i++) {
            due("the character " + i, x.type('x'), i);
        }
        due("the character 61", x.type('x'), FULL);
        due("the character 61, any other", x.type((char) 0), FULL);
        due("the length", x.count(6), 60);
        x.clearText();
        due("the first character again", x.type('x'), 1);
    }

    private static void clearText() {
        Floats x = new Floats();
        due("the empty text", x.clearText(), 0);
        x.type('x');
        due("the shortest text", x.clearText(), 1);
        due("the empty text", x.clearText(), 0);
        x.write("l0;".repeat(20));
        due("the longest text", x.clearText(), 60);
        due("the length then", x.count(6), 0);
        due("the fault then", x.follow(), -100);
    }

    private static void undo() {
        Floats x = new Floats();
        due("the empty history", x.undo(), NONE);
        x.pass(1);
        due("of one state", x.undo(), 0);
        due("the empty history", x.undo(), NONE);
        for (int i = 0; i < 4; i++) {
            x.pass(1);
        }
        due("of four states", x.undo(), 3);
        x.pass(1);
        x.pass(1);
        due("of five acts", x.undo(), 3);
        due("of five acts", x.undo(), 2);
        due("of five acts", x.undo(), 1);
        due("of five acts", x.undo(), 0);
        due("the empty history", x.undo(), NONE);
        due("the hour", x.count(0), 1);
    }

    private static void keep() {
        due("at the hour 0", new Floats().keep(), 0);
        due("at the hour 1", at(1).keep(), 1);
        due("at the hour 120", at(120).keep(), 120);
    }

    private static void restore() {
        Floats x = new Floats();
        due("no snapshot", x.restore(), NONE);
        x.keep();
        due("the snapshot of the hour 0", x.restore(), 0);
        x.pass(120);
        due("the snapshot of the hour 0", x.restore(), 0);
        x.undo();
        due("the hour", x.count(0), 120);
        x.keep();
        due("the snapshot of the hour 120", x.restore(), 120);
        x.undo();
        x.undo();
        due("the hour", x.count(0), 0);
        due("the snapshot of the hour 120", x.restore(), 120);
    }

    private static void sea() {
        for (int far : FAR) {
            due("sea(" + far + ")", new Floats().sea(far), BAD_VALUE);
        }
        due("sea(-25)", new Floats().sea(-25), BAD_VALUE);
        due("sea(-24)", new Floats().sea(-24), 99000);
        due("sea(-23)", new Floats().sea(-23), 99333);
        due("sea(-1)", new Floats().sea(-1), 99334);
        due("sea(0)", new Floats().sea(0), 99000);
        due("sea(199)", new Floats().sea(199), 100667);
        due("sea(200)", new Floats().sea(200), 100334);
        due("sea(201)", new Floats().sea(201), BAD_VALUE);
        due("sea(200) at the last hour", at(120).sea(200), 100334);
        due("sea(-24) at the last hour", at(120).sea(-24), 99000);
    }

    private static void outside() {
        for (int far : FAR) {
            due("the station " + far, new Floats().outside(far, 0), UNKNOWN);
            due("the hour " + far, new Floats().outside(0, far), BAD_VALUE);
        }
        due("the station -1", new Floats().outside(-1, 0), UNKNOWN);
        due("the station 2", new Floats().outside(2, 0), 99667);
        due("the station 3", new Floats().outside(3, 0), UNKNOWN);
        due("the hour -1", new Floats().outside(0, -1), BAD_VALUE);
        due("the hour 0", new Floats().outside(0, 0), 99000);
        due("the hour 200", new Floats().outside(0, 200), 100334);
        due("the hour 200, a delay of 2", new Floats().outside(2, 200), 101000);
        due("the hour 201", new Floats().outside(0, 201), BAD_VALUE);
        due("UNKNOWN and BAD_VALUE", new Floats().outside(3, 201), UNKNOWN);
        due("UNKNOWN and BAD_VALUE", new Floats().outside(-1, -1), UNKNOWN);
    }

    private static void station() {
        for (int far : FAR) {
            due("the station " + far, new Floats().station(far, 0), UNKNOWN);
            due("what " + far, new Floats().station(0, far), BAD_VALUE);
        }
        due("the station -1", new Floats().station(-1, 0), UNKNOWN);
        due("the station 3", new Floats().station(3, 0), UNKNOWN);
        due("what -1", new Floats().station(0, -1), BAD_VALUE);
        due("what 0", new Floats().station(2, 0), 2);
        due("what 12", new Floats().station(2, 12), 1);
        due("what 13", new Floats().station(0, 13), BAD_VALUE);
        due("UNKNOWN and BAD_VALUE", new Floats().station(3, 13), UNKNOWN);
        due("UNKNOWN and BAD_VALUE", new Floats().station(-1, -1), UNKNOWN);
        Floats x = new Floats();
        x.setStation(0, 12, 200, 2000);
        x.setRate(0, true, 1);
        x.setRate(0, false, 1);
        x.pass(120);
        int[] most = {12, 200, 102000, -1, 90, 1, 1, 120, 1, 120, 0, 0, 1};
        for (int what = 0; what < most.length; what++) {
            if (what != 3) {
                due("what " + what + " of the greatest", x.station(0, what), most[what]);
            }
        }
        Floats gaps = Floats.flatWith("-+".repeat(60));
        due("the most gaps", gaps.station(0, 10), 60);
        due("the readings beside them", gaps.station(0, 9), 60);
    }

    private static void hour() {
        for (int far : FAR) {
            due("the station " + far, at(5).hour(far, 0, 0), UNKNOWN);
            due("the hour " + far, at(5).hour(0, far, 0), far < 0 ? BAD_VALUE : NONE);
            due("what " + far, at(5).hour(0, 0, far), BAD_VALUE);
        }
        due("the station -1", at(5).hour(-1, 0, 0), UNKNOWN);
        due("the station 3", at(5).hour(3, 0, 0), UNKNOWN);
        due("the hour -1", at(5).hour(0, -1, 0), BAD_VALUE);
        due("the hour 0", at(5).hour(0, 0, 0), 99000);
        due("the last one that has passed", at(5).hour(0, 4, 0), 100333);
        due("what -1", at(5).hour(0, 0, -1), BAD_VALUE);
        due("what 4", at(5).hour(0, 0, 4), 0);
        due("what 5", at(5).hour(0, 0, 5), BAD_VALUE);
        due("the hour 119", at(120).hour(0, 119, 0), 99334);
        for (int what = 0; what <= 4; what++) {
            due("the hour of now, what " + what, at(5).hour(0, 5, what), NONE);
            due("the hour 0 at the hour 0, what " + what, at(0).hour(0, 0, what), NONE);
            due("the hour 119 at 119, what " + what, at(119).hour(0, 119, what), NONE);
            due("the hour 120 at 120, what " + what, at(120).hour(0, 120, what), NONE);
            due("the hour 121 at 120, what " + what, at(120).hour(0, 121, what), NONE);
        }
    }

    private static void hourNone() {
        Floats x = Floats.flatWith("+-+");
        int[] read = {100000, 100000, NONE, 0, 0};
        int[] missing = {NONE, NONE, NONE, 0, 1};
        int[] mended = {NONE, NONE, 100000, 0, 2};
        for (int what = 0; what <= 4; what++) {
            due("a reading, what " + what, x.hour(0, 0, what), read[what]);
            due("in a gap, what " + what, x.hour(0, 1, what), missing[what]);
            due("the gap is over, what " + what, x.hour(0, 2, what), read[what]);
        }
        x.mend(0, 0, 1, 0);
        for (int what = 0; what <= 4; what++) {
            due("ahead of what is mended, what " + what, x.hour(0, 0, what), read[what]);
            due("mended, what " + what, x.hour(0, 1, what), mended[what]);
            due("behind what is mended, what " + what, x.hour(0, 2, what), read[what]);
        }
        x.forget(0);
        for (int what = 0; what <= 4; what++) {
            due("forgotten, what " + what, x.hour(0, 1, what), missing[what]);
        }
    }

    private static void hourOrder() {
        due("UNKNOWN and BAD_VALUE: the hour", at(5).hour(3, -1, 0), UNKNOWN);
        due("UNKNOWN and BAD_VALUE: what", at(5).hour(3, 0, 5), UNKNOWN);
        due("UNKNOWN, of an hour that has not passed", at(5).hour(-1, 5, 0), UNKNOWN);
        due("BAD_VALUE, of an hour that has not passed", at(5).hour(0, 5, 5), BAD_VALUE);
        due("BAD_VALUE, of an hour that has not passed", at(5).hour(0, 500, -1), BAD_VALUE);
        due("BAD_VALUE, of an hour below 0 that has no reading", at(0).hour(0, -1, 0), BAD_VALUE);
        Floats x = Floats.flatWith("-");
        due("BAD_VALUE, of an hour without a reading", x.hour(0, 0, 5), BAD_VALUE);
        due("UNKNOWN, of an hour without a reading", x.hour(3, 0, 0), UNKNOWN);
    }

    private static void gap() {
        for (int far : FAR) {
            due("the station " + far, withGaps().gap(far, 0, 0), UNKNOWN);
            due("the gap " + far, withGaps().gap(0, far, 0), UNKNOWN);
            due("what " + far, withGaps().gap(0, 0, far), BAD_VALUE);
        }
        Floats x = withGaps();
        int[][] gaps = {{13, 14, 1, 0}, {29, 29, 0, 0}};
        for (int g = 0; g < 2; g++) {
            for (int what = 0; what <= 3; what++) {
                due("gap(0, " + g + ", " + what + ")", x.gap(0, g, what), gaps[g][what]);
            }
        }
        due("the station -1", x.gap(-1, 0, 0), UNKNOWN);
        due("the station 3", x.gap(3, 0, 0), UNKNOWN);
        due("the gap -1", x.gap(0, -1, 0), UNKNOWN);
        due("the gap 2", x.gap(0, 2, 0), UNKNOWN);
        due("the gap 0 of a station without gaps", x.gap(1, 0, 0), UNKNOWN);
        due("what -1", x.gap(0, 0, -1), BAD_VALUE);
        due("what 4", x.gap(0, 0, 4), BAD_VALUE);
        due("UNKNOWN (station) and BAD_VALUE", x.gap(3, 0, 4), UNKNOWN);
        due("UNKNOWN (gap) and BAD_VALUE", x.gap(0, 2, 4), UNKNOWN);
        due("UNKNOWN (gap) and BAD_VALUE", x.gap(0, -1, -1), UNKNOWN);
        x.mend(0, 0, 1, 0);
        due("all hours are mended", x.gap(0, 0, 3), 2);
        due("none of the gap behind it", x.gap(0, 1, 3), 0);
        x.forget(0);
        due("none is mended", x.gap(0, 0, 3), 0);
        Floats ends = Floats.flatWith(Floats.row(120, 0, 119));
        due("the first hour of all", ends.gap(0, 0, 0), 0);
        due("its last", ends.gap(0, 0, 1), 0);
        due("it is no inner one", ends.gap(0, 0, 2), 0);
        due("the last hour of all", ends.gap(0, 1, 1), 119);
        due("its first", ends.gap(0, 1, 0), 119);
        due("it is no inner one", ends.gap(0, 1, 2), 0);
        Floats inner = Floats.flatWith(Floats.row(120, 1, 118));
        due("one hour behind the first", inner.gap(0, 0, 2), 1);
        due("one hour ahead of the last", inner.gap(0, 1, 2), 1);
    }

    private static void misfit() {
        for (int far : FAR) {
            due("the station " + far, withGaps().misfit(far, 0, 1, 0), UNKNOWN);
            due("the gap " + far, withGaps().misfit(0, far, 1, 0), UNKNOWN);
            due("the neighbour " + far, withGaps().misfit(0, 0, far, 0), UNKNOWN);
            due("the phase " + far, withGaps().misfit(0, 0, 1, far), BAD_VALUE);
        }
        Floats x = withGaps();
        due("the station -1", x.misfit(-1, 0, 1, 0), UNKNOWN);
        due("the station 3", x.misfit(3, 0, 1, 0), UNKNOWN);
        due("the gap -1", x.misfit(0, -1, 1, 0), UNKNOWN);
        due("the gap 0", x.misfit(0, 0, 1, 0), 0);
        due("the gap 1, which is no inner one", x.misfit(0, 1, 1, 0), NOT_POSSIBLE);
        due("the gap 2", x.misfit(0, 2, 1, 0), UNKNOWN);
        due("the neighbour -1", x.misfit(0, 0, -1, 0), UNKNOWN);
        due("the neighbour 0", x.misfit(0, 0, 0, 0), BAD_VALUE);
        due("the neighbour 2", x.misfit(0, 0, 2, 0), 0);
        due("the neighbour 3", x.misfit(0, 0, 3, 0), UNKNOWN);
        due("the phase -13", x.misfit(0, 0, 1, -13), BAD_VALUE);
        due("the phase -12", x.misfit(0, 0, 1, -12), 0);
        due("the phase 12", x.misfit(0, 0, 1, 12), 0);
        due("the phase 13", x.misfit(0, 0, 1, 13), BAD_VALUE);
        Floats small = Floats.flatWith("++-++");
        due("too early a phase", small.misfit(0, 0, 1, -2), NONE);
        due("the earliest phase", small.misfit(0, 0, 1, -1), 0);
        due("the latest phase", small.misfit(0, 0, 1, 1), 0);
        due("too late a phase", small.misfit(0, 0, 1, 2), NONE);
    }

    private static void misfitOrder() {
        Floats x = withGaps();
        due("no such station; the phase", x.misfit(3, 0, 1, 13), UNKNOWN);
        due("no such gap; the phase", x.misfit(0, 2, 1, 13), UNKNOWN);
        due("no such gap; the neighbour is the station", x.misfit(0, 2, 0, 0), UNKNOWN);
        due("no such neighbour; the phase", x.misfit(0, 0, 3, 13), UNKNOWN);
        due("no such neighbour; no inner gap", x.misfit(0, 1, 3, 0), UNKNOWN);
        due("the phase; no inner gap", x.misfit(0, 1, 1, 13), BAD_VALUE);
        due("the neighbour is the station; no inner gap", x.misfit(0, 1, 0, 0), BAD_VALUE);
        due("the neighbour is the station, and lacks readings", x.misfit(0, 0, 0, 0), BAD_VALUE);
        due("no inner gap; no readings", x.misfit(0, 1, 1, 12), NOT_POSSIBLE);
        Floats off = Floats.flatWith("+-+", "---");
        due("no readings of the neighbour", off.misfit(0, 0, 1, 0), NONE);
        due("the phase; no readings", off.misfit(0, 0, 1, 13), BAD_VALUE);
        due("no inner gap; no readings", off.misfit(1, 0, 0, 0), NOT_POSSIBLE);
    }

    private static void bestPhase() {
        for (int far : FAR) {
            due("the station " + far, withGaps().bestPhase(far, 0, 1), UNKNOWN);
            due("the gap " + far, withGaps().bestPhase(0, far, 1), UNKNOWN);
            due("the neighbour " + far, withGaps().bestPhase(0, 0, far), UNKNOWN);
        }
        Floats x = withGaps();
        due("the station -1", x.bestPhase(-1, 0, 1), UNKNOWN);
        due("the station 3", x.bestPhase(3, 0, 1), UNKNOWN);
        due("the gap -1", x.bestPhase(0, -1, 1), UNKNOWN);
        due("the gap 0", x.bestPhase(0, 0, 1), 100);
        due("the gap 1, which is no inner one", x.bestPhase(0, 1, 1), NOT_POSSIBLE);
        due("the gap 2", x.bestPhase(0, 2, 1), UNKNOWN);
        due("the neighbour -1", x.bestPhase(0, 0, -1), UNKNOWN);
        due("the neighbour 0", x.bestPhase(0, 0, 0), BAD_VALUE);
        due("the neighbour 2", x.bestPhase(0, 0, 2), 100);
        due("the neighbour 3", x.bestPhase(0, 0, 3), UNKNOWN);
        due("no such gap; the neighbour is the station", x.bestPhase(0, 2, 0), UNKNOWN);
        due("no such neighbour; no inner gap", x.bestPhase(0, 1, 3), UNKNOWN);
        due("the neighbour is the station; no inner gap", x.bestPhase(0, 1, 0), BAD_VALUE);
        Floats off = Floats.flatWith("+-+", "---");
        due("it cannot be mended by 1", off.bestPhase(0, 0, 1), NONE);
        due("it can be mended by 2", off.bestPhase(0, 0, 2), 100);
        due("no inner gap, which could not be mended by 0", off.bestPhase(1, 0, 0), NOT_POSSIBLE);
        due("itself, by which it could not be mended", off.bestPhase(0, 0, 0), BAD_VALUE);
    }

    private static void highRank() {
        for (int far : FAR) {
            due("the station " + far, at(20).high(far, 0), UNKNOWN);
            due("the rank " + far, at(20).high(0, far), far < 0 ? BAD_VALUE : NONE);
        }
        Floats x = at(20);
        due("the station -1", x.high(-1, 0), UNKNOWN);
        due("the station 3", x.high(3, 0), UNKNOWN);
        due("the rank -1", x.high(0, -1), BAD_VALUE);
        due("the rank 0", x.high(0, 0), 6);
        due("the rank 1", x.high(0, 1), 18);
        due("the rank 2", x.high(0, 2), NONE);
        due("UNKNOWN and BAD_VALUE", x.high(3, -1), UNKNOWN);
        due("UNKNOWN, where there are not so many", x.high(3, 500), UNKNOWN);
        due("BAD_VALUE, where there are none", new Floats().high(0, -1), BAD_VALUE);
        due("none at the hour 0", new Floats().high(0, 0), NONE);
        Floats most = new Floats();
        most.setWave(0, 1000, 2, 0);
        most.pass(120);
        due("the first one", most.high(0, 0), 1);
        due("the last one: not 119", most.high(0, 58), 117);
        due("not so many", most.high(0, 59), NONE);
        Floats even = new Floats();
        even.setWave(0, 1000, 2, 1);
        even.pass(120);
        due("the first one: not 0", even.high(0, 0), 2);
        due("the last one", even.high(0, 58), 118);
        due("not so many", even.high(0, 59), NONE);
    }

    /** The readings of the station 0 are 0 and rise by 1 at each hour that has a '/'. */
    private static Floats rising(String signs) {
        Floats x = Floats.flat();
        for (int h = 1; h <= signs.length(); h++) {
            boolean rises = h < signs.length() && signs.charAt(h) == '/';
            x.setRate(0, true, rises ? 1 : 0);
            x.pass(1);
        }
        return x;
    }

    private static void highGreater() {
        Floats x = rising("_/__");
        due("the readings", x.hour(0, 1, 0), 100001);
        due("equal to the one behind it", x.high(0, 0), NONE);
        Floats wave = Floats.flat();
        wave.setWave(0, 300, 3, 0);
        wave.pass(10);
        due("the reading of the hour 1", wave.hour(0, 1, 0), wave.hour(0, 2, 0));
        due("equal to the one behind it, or ahead of it", wave.high(0, 0), NONE);
        Floats least = new Floats();
        least.setWave(0, 1, 4, 0);
        least.pass(5);
        due("greater by 1", least.high(0, 0), 2);
        due("only that one", least.high(0, 1), NONE);
    }

    private static void highAllThree() {
        due("nothing behind it", at(7).high(0, 0), NONE);
        due("all three", at(8).high(0, 0), 6);
        Floats ahead = new Floats();
        ahead.passRows(Floats.row(10, 5));
        due("nothing ahead of it", ahead.high(0, 0), NONE);
        due("mended ahead of it", ahead.mend(0, 0, 1, 1), 1);
        due("a mended value ahead of it", ahead.high(0, 0), 6);
        Floats itself = new Floats();
        itself.passRows(Floats.row(10, 6));
        due("nothing at it", itself.high(0, 0), NONE);
        itself.mend(0, 0, 1, 1);
        due("a mended value at it", itself.high(0, 0), 6);
        itself.forget(0);
        due("forgotten", itself.high(0, 0), NONE);
        Floats behind = new Floats();
        behind.passRows(Floats.row(10, 7));
        due("nothing behind it", behind.high(0, 0), NONE);
        behind.mend(0, 0, 1, 1);
        due("a mended value behind it", behind.high(0, 0), 6);
        Floats all = new Floats();
        all.passRows(Floats.row(12, 4, 5, 6, 7, 8));
        all.mend(0, 0, 1, 1);
        due("three mended values", all.high(0, 0), 6);
        Floats beside = new Floats();
        beside.passRows(Floats.row(10, 4, 8));
        due("gaps beside the three", beside.high(0, 0), 6);
    }

    private static void highValues() {
        due("the readings are no high water", rising("_/_").high(0, 0), NONE);
        Floats falling = rising("_/_");
        falling.level(0);
        falling.pass(1);
        int[] wants = {100000, 100001, 100001, 100000};
        for (int h = 0; h < wants.length; h++) {
            due("the corrected reading of " + h, falling.hour(0, h, 1), wants[h]);
        }
        due("equal ones are none", falling.high(0, 0), NONE);
        Floats peak = rising("_/");
        peak.level(0);
        peak.pass(1);
        due("corrected: 0", peak.hour(0, 0, 1), 100000);
        due("corrected: 1 - 1 / 2", peak.hour(0, 1, 1), 100001);
        due("corrected: 1 - 1", peak.hour(0, 2, 1), 100000);
        due("a high water of corrected readings", peak.high(0, 0), 1);
        due("which is none of the readings", peak.hour(0, 1, 0), peak.hour(0, 2, 0));
    }

    private static void count() {
        for (int far : FAR) {
            due("count(" + far + ")", new Floats().count(far), BAD_VALUE);
        }
        due("count(-1)", new Floats().count(-1), BAD_VALUE);
        due("count(7)", new Floats().count(7), BAD_VALUE);
        Floats x = new Floats();
        x.passRows("+".repeat(119) + "-", "+".repeat(120), "+-".repeat(60));
        x.mend(2, 0, 1, 0);
        x.mend(2, 58, 1, 0);
        x.write("x0;".repeat(20));
        int[] wants = {120, 1, 119 + 120 + 60, 61, 2, 4, 60};
        for (int what = 0; what < wants.length; what++) {
            due("count(" + what + ")", x.count(what), wants[what]);
        }
        Floats all = at(120);
        due("the most readings", all.count(2), 360);
        due("no hours in gaps", all.count(3), 0);
        Floats none = new Floats();
        for (int s = 0; s < 3; s++) {
            none.turn(s, false);
        }
        none.pass(120);
        due("none is on", none.count(1), 0);
        due("no readings", none.count(2), 0);
        due("the most hours in gaps", none.count(3), 360);
    }
}

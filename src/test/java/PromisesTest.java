/** One method a promise: ordinary arguments, the edges that the document names, and wrong ones. */
public final class PromisesTest {
    private static final int UNKNOWN = SiltedFloats.UNKNOWN;
    private static final int BAD_VALUE = SiltedFloats.BAD_VALUE;
    private static final int FULL = SiltedFloats.FULL;
    private static final int NOT_POSSIBLE = SiltedFloats.NOT_POSSIBLE;
    private static final int NONE = SiltedFloats.NONE;
    private static final int[] FAR = {Integer.MIN_VALUE, -1000, 1000, Integer.MAX_VALUE};

    public static void main(String[] args) {
        constants();
        promise1();
        promise2();
        promise3();
        promise4();
        promise5();
        promise6();
        promise7();
        promise8();
        promise9();
        promise9Faults();
        promise10();
        promise10Stays();
        promise10Errors();
        promise11();
        promise12();
        promise13();
        promise14();
        promise15();
        promise16();
        promise17();
        promise18();
        promise19();
        promise20();
        promise21();
        promise22();
        promise22Errors();
        promise23();
        promise24();
        promise25();
        actsAreRecorded();
        refusedCallsChangeNothing();
        farArguments();
        Checks.end();
    }

    private static void due(String call, long got, long want) {
        Checks.due(call, got, want);
    }

    // ---- set-ups

    /** The sea is at 0 at all hours. */
    private static Floats flat() {
        Floats x = new Floats();
        x.setWave(0, 0, 2, 0);
        return x;
    }

    /** A flat sea; the station 0 has readings at 0 to 2 and 7 to 9 and an inner gap from 3 to 6. */
    private static Floats flatWithGap() {
        Floats x = flat();
        x.setStation(1, 1, 100, 100);
        x.setRate(1, true, 2);
        makeGap(x);
        return x;
    }

    private static void makeGap(Floats x) {
        x.pass(3);
        x.turn(0, false);
        x.pass(4);
        x.turn(0, true);
        x.pass(3);
    }

    // ---- the promises

    private static void constants() {
        due("UNKNOWN", UNKNOWN, -1);
        due("BAD_VALUE", BAD_VALUE, -2);
        due("FULL", FULL, -3);
        due("NOT_POSSIBLE", NOT_POSSIBLE, -4);
        due("NONE", NONE, -5);
    }

    private static void promise1() {
        Floats x = new Floats();
        int[] counts = {0, 3, 0, 0, 0, 0, 0};
        for (int w = 0; w < counts.length; w++) {
            due("1: count(" + w + ")", x.count(w), counts[w]);
        }
        int[] floats = {99000, 99334, 99667};
        for (int s = 0; s < 3; s++) {
            int[] numbers = {s, 100, 100000, floats[s], 0, 0, 0, 0, 1, 0, 0, 0, 1};
            for (int w = 0; w < numbers.length; w++) {
                due("1: station(" + s + ", " + w + ")", x.station(s, w), numbers[w]);
            }
            due("1: high(" + s + ", 0)", x.high(s, 0), NONE);
        }
        for (int w = 1; w < 3; w++) {
            due("1: the wave " + w + " is so", x.setWave(w, 0, 24, 0), NONE);
        }
        due("1: the wave 0 is so", x.setWave(0, 1000, 12, 0), NONE);
        due("1: undo()", x.undo(), NONE);
        due("1: restore()", x.restore(), NONE);
        due("1: sea(6)", x.sea(6), 101000);
        new Floats().pass(7);
        due("1: count(0) when another one has passed hours", x.count(0), 0);
    }

    private static void promise2() {
        Floats x = new Floats();
        due("2: setWave(1, 500, 24, 6)", x.setWave(1, 500, 24, 6), 99000);
        due("2: sea(6) then", x.sea(6), 101500);
        due("2: setWave(0, 3000, 2, 1)", x.setWave(0, 3000, 2, 1), 103000);
        due("2: sea(1) then", x.sea(1), 97083);
        due("2: setWave(2, 100, 3, 2)", x.setWave(2, 100, 3, 2), 103034);
        for (int s = 0; s < 3; s++) {
            due("2: the float of " + s, x.station(s, 3), x.outside(s, 0));
        }
        due("2: the float of 1 is at the sea of -1", x.station(1, 3), x.sea(-1));
        due("2: again", x.setWave(2, 100, 3, 2), NONE);
        due("2: another amplitude", x.setWave(2, 101, 3, 2), 103034);
        due("2: another period", x.setWave(2, 101, 4, 2), 103101);
        due("2: another phase", x.setWave(2, 101, 4, 0), 102899);
        due("2: the greatest", x.setWave(1, 3000, 48, 47), 103000 - 101 - 2750);
        due("2: the least", x.setWave(1, 0, 2, 0), 102899);
        due("2: no such wave", x.setWave(-1, 0, 2, 0), UNKNOWN);
        due("2: no such wave", x.setWave(3, 0, 2, 0), UNKNOWN);
        due("2: no such wave ahead of BAD_VALUE", x.setWave(3, -1, 1, 48), UNKNOWN);
        due("2: amplitude -1", x.setWave(0, -1, 2, 0), BAD_VALUE);
        due("2: amplitude 3001", x.setWave(0, 3001, 2, 0), BAD_VALUE);
        due("2: period 1", x.setWave(0, 0, 1, 0), BAD_VALUE);
        due("2: period 0", x.setWave(0, 0, 0, 0), BAD_VALUE);
        due("2: period 49", x.setWave(0, 0, 49, 0), BAD_VALUE);
        due("2: phase -1", x.setWave(0, 0, 2, -1), BAD_VALUE);
        due("2: phase 48", x.setWave(0, 0, 2, 48), BAD_VALUE);
        x.pass(1);
        due("2: UNKNOWN ahead of NOT_POSSIBLE", x.setWave(3, 0, 2, 0), UNKNOWN);
        due("2: BAD_VALUE ahead of NOT_POSSIBLE", x.setWave(0, 0, 1, 0), BAD_VALUE);
        due("2: behind the hour 0", x.setWave(0, 0, 2, 0), NOT_POSSIBLE);
        due("2: NOT_POSSIBLE ahead of NONE", x.setWave(1, 0, 2, 0), NOT_POSSIBLE);
        x.undo();
        due("2: at the hour 0 again", x.setWave(0, 0, 2, 0), 99899);
    }

    private static void promise3() {
        Floats x = new Floats();
        due("3: setStation(0, 3, 50, 7)", x.setStation(0, 3, 50, 7), 100007);
        due("3: its delay", x.station(0, 0), 3);
        due("3: its scale", x.station(0, 1), 50);
        due("3: its offset", x.station(0, 2), 100007);
        due("3: its float", x.station(0, 3), 100007);
        due("3: the float of another", x.station(1, 3), 99334);
        due("3: rounded towards the lesser one", x.setStation(0, 1, 75, 0), 99500);
        due("3: again", x.setStation(0, 1, 75, 0), NONE);
        due("3: another delay", x.setStation(0, 0, 75, 0), 99250);
        due("3: another scale", x.setStation(0, 0, 10, 0), 99900);
        due("3: another offset", x.setStation(0, 0, 10, 1), 99901);
        due("3: the greatest", x.setStation(2, 12, 200, 2000), 100000);
        due("3: the least", x.setStation(2, 0, 10, -2000), 97900);
        due("3: no such station", x.setStation(-1, 0, 100, 0), UNKNOWN);
        due("3: no such station", x.setStation(3, 0, 100, 0), UNKNOWN);
        due("3: UNKNOWN ahead of BAD_VALUE", x.setStation(3, 13, 9, 2001), UNKNOWN);
        due("3: delay -1", x.setStation(0, -1, 100, 0), BAD_VALUE);
        due("3: delay 13", x.setStation(0, 13, 100, 0), BAD_VALUE);
        due("3: scale 9", x.setStation(0, 0, 9, 0), BAD_VALUE);
        due("3: scale 201", x.setStation(0, 0, 201, 0), BAD_VALUE);
        due("3: offset -2001", x.setStation(0, 0, 100, -2001), BAD_VALUE);
        due("3: offset 2001", x.setStation(0, 0, 100, 2001), BAD_VALUE);
        x.pass(1);
        due("3: UNKNOWN ahead of NOT_POSSIBLE", x.setStation(3, 0, 100, 0), UNKNOWN);
        due("3: BAD_VALUE ahead of NOT_POSSIBLE", x.setStation(0, 13, 100, 0), BAD_VALUE);
        due("3: behind the hour 0", x.setStation(0, 5, 100, 0), NOT_POSSIBLE);
        due("3: NOT_POSSIBLE ahead of NONE", x.setStation(0, 0, 10, 1), NOT_POSSIBLE);
    }

    private static void promise4() {
        Floats x = new Floats();
        due("4: the silting", x.setRate(0, false, 20), 0);
        due("4: the sinking", x.setRate(0, true, 3), 0);
        due("4: the silting is", x.station(0, 5), 20);
        due("4: the sinking is", x.station(0, 6), 3);
        due("4: another one has none", x.station(1, 5) + x.station(1, 6), 0);
        due("4: the silting anew", x.setRate(0, false, 1), 20);
        due("4: so already", x.setRate(0, false, 1), NONE);
        due("4: so already", x.setRate(0, true, 3), NONE);
        due("4: no such station", x.setRate(-1, true, 1), UNKNOWN);
        due("4: no such station", x.setRate(3, false, 1), UNKNOWN);
        due("4: UNKNOWN ahead of BAD_VALUE", x.setRate(3, false, 21), UNKNOWN);
        due("4: hours -1", x.setRate(0, false, -1), BAD_VALUE);
        due("4: hours 21", x.setRate(0, true, 21), BAD_VALUE);
        x.pass(5);
        due("4: the silt after 5 hours", x.station(0, 4), 5);
        due("4: it has sunk in the hour 2", x.station(0, 7), 1);
        due("4: at a later hour", x.setRate(0, false, 0), 1);
        due("4: at a later hour", x.setRate(0, true, 2), 3);
        x.pass(5);
        due("4: no more silt", x.station(0, 4), 5);
        due("4: it has sunk in the hours 5, 7 and 9", x.station(0, 7), 4);
    }

    private static void promise5() {
        Floats x = new Floats();
        due("5: off", x.turn(0, false), 2);
        due("5: it is off", x.station(0, 8), 0);
        due("5: off", x.turn(2, false), 1);
        due("5: off", x.turn(1, false), 0);
        due("5: off already", x.turn(1, false), NONE);
        due("5: on", x.turn(1, true), 1);
        due("5: on already", x.turn(1, true), NONE);
        due("5: it is on", x.station(1, 8), 1);
        due("5: no such station", x.turn(-1, true), UNKNOWN);
        due("5: no such station", x.turn(3, false), UNKNOWN);
        x.pass(2);
        due("5: no readings while off", x.station(0, 9), 0);
        due("5: readings while on", x.station(1, 9), 2);
        due("5: the float follows while off", x.station(0, 3), x.outside(0, 1));
    }

    private static void promise6() {
        Floats x = new Floats();
        due("6: no silt", x.clean(0), NONE);
        x.setRate(0, false, 2);
        x.setRate(1, false, 1);
        x.pass(7);
        due("6: the silt", x.clean(0), 3);
        due("6: none then", x.station(0, 4), 0);
        due("6: none already", x.clean(0), NONE);
        due("6: the silt of another one stays", x.station(1, 4), 7);
        due("6: the silting stays", x.station(0, 5), 2);
        x.pass(1);
        due("6: it silts anew", x.station(0, 4), 1);
        due("6: no such station", x.clean(-1), UNKNOWN);
        due("6: no such station", x.clean(3), UNKNOWN);
    }

    private static void promise7() {
        Floats x = flat();
        due("7: at the hour 0 it is noted", x.level(0), NONE);
        x.setRate(0, true, 3);
        x.pass(10);
        due("7: level(0)", x.level(0), 3);
        due("7: again", x.level(0), NONE);
        due("7: two notes", x.station(0, 12), 2);
        due("7: one of another station", x.station(1, 12), 1);
        int[] corrections = {0, 0, 0, 0, 1, 1, 1, 2, 2, 2};
        int[] readings = {0, 0, 0, 1, 1, 1, 2, 2, 2, 3};
        for (int h = 0; h < 10; h++) {
            due("7: the reading at " + h, x.hour(0, h, 0), 100000 + readings[h]);
            due("7: the correction at " + h, x.hour(0, h, 3), corrections[h]);
            due("7: corrected at " + h, x.hour(0, h, 1), 100000 + readings[h] - corrections[h]);
        }
        x.pass(5);
        due("7: behind the last note", x.hour(0, 10, 3), 3);
        due("7: behind the last note", x.hour(0, 14, 3), 3);
        due("7: level(0) at 15", x.level(0), 5);
        int[] later = {3, 3, 3, 4, 4};
        for (int h = 10; h < 15; h++) {
            due("7: the correction at " + h, x.hour(0, h, 3), later[h - 10]);
        }
        due("7: the earlier ones stay", x.hour(0, 9, 3), 2);
        due("7: nothing sunk, at another hour", x.level(1), 0);
        due("7: its notes", x.station(1, 12), 2);
        due("7: no such station", x.level(-1), UNKNOWN);
        due("7: no such station", x.level(3), UNKNOWN);
    }

    private static void promise8() {
        Floats x = new Floats();
        x.setRate(0, false, 1);
        x.setRate(0, true, 1);
        due("8: pass(3)", x.pass(3), 3);
        due("8: the reading of the hour 0", x.hour(0, 0, 0), 99000);
        due("8: of the hour 1: -1000 + 333 * 99 / 100 + 1", x.hour(0, 1, 0), 99330);
        due("8: of the hour 2: -671 + 337 * 98 / 100 + 2", x.hour(0, 2, 0), 99661);
        due("8: the float is not as the gauge reads", x.station(0, 3), 99659);
        due("8: pass(0)", x.pass(0), BAD_VALUE);
        due("8: pass(-1)", x.pass(-1), BAD_VALUE);
        due("8: pass(121)", x.pass(121), BAD_VALUE);
        due("8: pass(118)", x.pass(118), FULL);
        due("8: pass(117)", x.pass(117), 120);
        due("8: the silt grows up to 90", x.station(0, 4), 90);
        due("8: the sinking has no bound", x.station(0, 7), 120);
        due("8: pass(1)", x.pass(1), FULL);
        due("8: pass(120)", x.pass(120), FULL);
        due("8: BAD_VALUE ahead of FULL", x.pass(121), BAD_VALUE);
        due("8: all at once", new Floats().pass(120), 120);

        Floats falling = flat();
        falling.setWave(0, 100, 2, 1);
        falling.setRate(0, false, 1);
        falling.pass(2);
        due("8: rounded towards the lesser one: 100 - 200 * 99 / 100", falling.station(0, 3), 99902);
        falling.pass(1);
        due("8: -98 + 198 * 98 / 100", falling.station(0, 3), 100096);
        falling.pass(1);
        due("8: 96 - 196 * 97 / 100, rounded", falling.station(0, 3), 99905);
    }

    private static void promise9() {
        Floats x = new Floats();
        x.setRate(1, false, 2);
        x.setRate(2, true, 3);
        due("9: seven orders", x.followed("x0;p3;o0;p17;l2;c1;x1"), 7);
        due("9: the hour", x.count(0), 20);
        due("9: readings of 0", x.station(0, 9), 17);
        due("9: the silt of 1", x.station(1, 4), 0);
        due("9: the notes of 2", x.station(2, 12), 2);
        due("9: the correction of 2", x.hour(2, 19, 3), 5);
        due("9: 1 is off", x.station(1, 8), 0);
        due("9: one act", x.count(5), 3);
        due("9: the text stays", x.count(6), 21);
        due("9: what would return NONE does nothing", x.followed("x1;o0;c1;l2"), 4);
        due("9: the notes of 2 then", x.station(2, 12), 2);
        due("9: but it is an act", x.count(5), 4);
        due("9: the greatest number", x.followed("p99"), 1);
        due("9: the hour", x.count(0), 119);
        String before = x.told();
        x.write("x2;p1;p1");
        due("9: too many hours", x.follow(), FULL);
        x.clearText();
        x.write("p99");
        due("9: nothing is done", x.told(), before);
        due("9: exactly all hours", x.followed("p1;x2"), 2);
        due("9: the hour", x.count(0), 120);
        due("9: FULL", x.followed("p1"), FULL);
        due("9: the fault ahead of FULL", x.followed("p1;"), -103);
        due("9: orders without hours", x.followed("o2"), 1);

        Floats y = new Floats();
        due("9: exactly 120", y.followed("p99;p9;p1;p11"), 4);
        due("9: the hour", y.count(0), 120);
        Floats z = new Floats();
        due("9: 121", z.followed("p99;p9;p2;p11"), FULL);
        due("9: the hour", z.count(0), 0);
    }

    private static void due(String call, String got, String want) {
        Checks.due(call, got, want);
    }

    private static void promise9Faults() {
        String[] texts = {"", "p", "p0", "p01", "p1;", "p12;", "p123", "p1x", "p10", "q", "P1", ";", "p1;;p1",
            "x", "x3", "x;", "x/", "o:", "c00", "l2p", "x0 ", " x0", "p1 ", "x0;p", "x0;p1;l", "p-1", "p;", "p:",
            "p1:", "p1/", "p/", "0", "x0,x1"};
        int[] faults = {0, 1, 1, 1, 3, 4, 3, 2, -1, 0, 0, 0, 3,
            1, 1, 1, 1, 1, 2, 2, 2, 0, 2, 4, 7, 1, 1, 1,
            2, 2, 1, 0, 2};
        for (int i = 0; i < texts.length; i++) {
            Floats x = new Floats();
            int want = faults[i] < 0 ? 1 : -100 - faults[i];
            due("9: follow() of \"" + texts[i] + "\"", x.followed(texts[i]), want);
            due("9: the acts of \"" + texts[i] + "\"", x.count(5), faults[i] < 0 ? 1 : 0);
        }
        String full = "x0;x1;x2;o0;o1;o2;c0;c1;c2;l0;l1;l2;x0;x1;x2;o0;o1;o2;p1;p10";
        Floats x = new Floats();
        due("9: a text of 60 characters", x.followed(full), 20);
        due("9: one of 60 that ends too early", x.followed(full.substring(0, 57) + "p"), -158);
        due("9: one of 60 that ends with ;", x.followed(full.substring(0, 57) + "p1;"), -160);
        Floats y = new Floats();
        y.type('x');
        y.type((char) ('0' + 256));
        due("9: a character that is a digit in its low byte", y.follow(), -101);
    }

    private static void promise10() {
        Floats x = flatWithGap();
        due("10: mend(0, 0, 1, 0)", x.mend(0, 0, 1, 0), 4);
        int[] mended = {99999, 100000, 99999, 100000};
        for (int h = 3; h <= 6; h++) {
            due("10: mended at " + h, x.hour(0, h, 2), mended[h - 3]);
            due("10: the kind of " + h, x.hour(0, h, 4), 2);
            due("10: no reading at " + h, x.hour(0, h, 0), NONE);
        }
        due("10: with the phase -2", x.mend(0, 0, 1, -2), 4);
        int[] early = {99999, 100000, 99999, 100000};
        for (int h = 3; h <= 6; h++) {
            due("10: anew at " + h, x.hour(0, h, 2), early[h - 3]);
        }
        due("10: with the phase 2", x.mend(0, 0, 1, 2), 4);
        due("10: with the phase 1", x.mend(0, 0, 1, 1), 4);
        int[] odd = {100000, 99999, 100000, 99999};
        for (int h = 3; h <= 6; h++) {
            due("10: with the phase 1 at " + h, x.hour(0, h, 2), odd[h - 3]);
        }
        due("10: readings of 0", x.station(0, 9), 6);

        Floats two = new Floats();
        two.pass(2);
        two.turn(0, false);
        two.pass(1);
        two.turn(0, true);
        two.pass(2);
        two.turn(0, false);
        two.pass(3);
        two.turn(0, true);
        two.pass(1);
        due("10: a gap of one hour", two.mend(0, 0, 1, 0), 1);
        due("10: a gap of three hours", two.mend(0, 1, 1, 0), 3);
        due("10: mended in all", two.station(0, 11), 4);
    }

    private static void promise10Stays() {
        Floats x = flatWithGap();
        x.mend(0, 0, 1, 0);
        x.setRate(1, true, 1);
        x.pass(30);
        x.level(1);
        x.level(0);
        due("10: it stays at 3", x.hour(0, 3, 2), 99999);
        due("10: it stays at 4", x.hour(0, 4, 2), 100000);
        x.pass(1);
        due("10: corrected readings are taken", x.mend(0, 0, 1, 0), 4);
        int[] ofNeighbour = new int[8];
        for (int h = 0; h < 8; h++) {
            int sunkAtTheNote = 35;
            ofNeighbour[h] = 100 + h / 2 - Math.floorDiv(sunkAtTheNote * h, 40);
            due("10: the neighbour at " + h, x.hour(1, h, 1), 100000 + ofNeighbour[h]);
        }
        int start = -ofNeighbour[2];
        int end = -ofNeighbour[7];
        for (int h = 3; h <= 6; h++) {
            due("10: anew at " + h, x.hour(0, h, 2),
                    100000 + ofNeighbour[h] + start + Math.floorDiv((end - start) * (h - 2), 5));
        }
    }

    private static void promise10Errors() {
        Floats x = flatWithGap();
        due("10: no such station", x.mend(-1, 0, 1, 0), UNKNOWN);
        due("10: no such station", x.mend(3, 0, 1, 0), UNKNOWN);
        due("10: no such gap", x.mend(0, 1, 1, 0), UNKNOWN);
        due("10: no such gap", x.mend(0, -1, 1, 0), UNKNOWN);
        due("10: no such neighbour", x.mend(0, 0, -1, 0), UNKNOWN);
        due("10: no such neighbour", x.mend(0, 0, 3, 0), UNKNOWN);
        due("10: UNKNOWN ahead of BAD_VALUE", x.mend(0, 0, 3, 13), UNKNOWN);
        due("10: UNKNOWN ahead of BAD_VALUE", x.mend(0, 1, 0, 0), UNKNOWN);
        due("10: phase -13", x.mend(0, 0, 1, -13), BAD_VALUE);
        due("10: phase 13", x.mend(0, 0, 1, 13), BAD_VALUE);
        due("10: its own neighbour", x.mend(0, 0, 0, 0), BAD_VALUE);
        due("10: phase -3 is too early", x.mend(0, 0, 1, -3), NOT_POSSIBLE);
        due("10: phase 3 is too late", x.mend(0, 0, 1, 3), NOT_POSSIBLE);
        due("10: phase -12", x.mend(0, 0, 1, -12), NOT_POSSIBLE);
        due("10: phase 12", x.mend(0, 0, 1, 12), NOT_POSSIBLE);
        x.turn(2, false);
        x.pass(2);
        due("10: no inner gap", x.mend(2, 0, 1, 0), NOT_POSSIBLE);
        due("10: BAD_VALUE ahead of NOT_POSSIBLE", x.mend(2, 0, 1, 13), BAD_VALUE);
        due("10: by 2, which has readings up to 9", x.mend(0, 0, 2, 2), 4);
        due("10: by 2, which has none at 10", x.mend(0, 0, 2, 3), NOT_POSSIBLE);
        due("10: what is mended is no reading", x.mend(0, 0, 1, 0), 4);
        x.turn(1, false);
        x.pass(3);
        x.turn(1, true);
        x.pass(1);
        due("10: a gap of 1 from 12 to 14", x.gap(1, 0, 0), 12);
        due("10: by 0, which has readings from 7 to 15", x.mend(1, 0, 0, -4), 3);
        due("10: by 0, which is mended at 6", x.mend(1, 0, 0, -5), NOT_POSSIBLE);

        Floats first = new Floats();
        first.turn(0, false);
        first.pass(2);
        first.turn(0, true);
        first.pass(2);
        due("10: a gap from 0 on is no inner one", first.mend(0, 0, 1, 0), NOT_POSSIBLE);
        due("10: which gap says so", first.gap(0, 0, 2), 0);
    }

    private static void promise11() {
        Floats x = flatWithGap();
        due("11: nothing mended", x.forget(0), NONE);
        x.mend(0, 0, 1, 0);
        x.turn(0, false);
        x.pass(2);
        x.turn(0, true);
        x.pass(1);
        x.mend(0, 1, 1, 0);
        x.turn(1, false);
        x.pass(1);
        x.turn(1, true);
        x.pass(1);
        x.mend(1, 0, 2, 0);
        due("11: forget(0)", x.forget(0), 6);
        due("11: none is mended then", x.station(0, 11), 0);
        due("11: the hour is in a gap", x.hour(0, 3, 4), 1);
        due("11: it has no value", x.hour(0, 3, 2), NONE);
        due("11: the gaps stay", x.station(0, 10), 2);
        due("11: another station's stay", x.station(1, 11), 1);
        due("11: again", x.forget(0), NONE);
        due("11: forget(1)", x.forget(1), 1);
        due("11: it can be mended anew", x.mend(0, 0, 1, 0), 4);
        due("11: no such station", x.forget(-1), UNKNOWN);
        due("11: no such station", x.forget(3), UNKNOWN);
    }

    private static void promise12() {
        Floats x = new Floats();
        for (int i = 1; i <= 60; i++) {
            due("12: type() the " + i + "th time", x.type((char) (i * 997)), i);
        }
        due("12: type() the 61st time", x.type('p'), FULL);
        due("12: the length then", x.count(6), 60);
        due("12: typing is no act", x.count(5), 0);
        Floats y = new Floats();
        y.type('x');
        y.type('1');
        y.follow();
        due("12: what is typed is what is followed", y.station(1, 8), 0);
        y.undo();
        due("12: the text is no part of the state", y.count(6), 2);
    }

    private static void promise13() {
        Floats x = new Floats();
        due("13: of an empty text", x.clearText(), 0);
        x.write("x0;p1");
        due("13: clearText()", x.clearText(), 5);
        due("13: the length then", x.count(6), 0);
        due("13: the fault then", x.follow(), -100);
        due("13: it is no act", x.count(5), 0);
        due("13: typed anew", x.followed("x2"), 1);
        due("13: nothing of the old text", x.station(0, 8), 1);
    }

    private static void promise14() {
        Floats x = new Floats();
        due("14: an empty history", x.undo(), NONE);
        String[] states = new String[7];
        for (int i = 0; i < 6; i++) {
            states[i] = x.state();
            x.pass(i + 1);
        }
        due("14: at most 4 states", x.count(5), 4);
        for (int left = 3; left >= 0; left--) {
            due("14: undo()", x.undo(), left);
            due("14: the state", x.state(), states[left + 2]);
            due("14: the history", x.count(5), left);
        }
        due("14: the older ones are dropped", x.undo(), NONE);
        due("14: it stays then", x.state(), states[2]);
        x.pass(5);
        due("14: one more", x.undo(), 0);

        Floats all = new Floats();
        String atFirst = all.state();
        for (int w = 0; w < 3; w++) {
            all.setWave(w, 70 + w, 7 + w, 3);
            all.undo();
            due("14: the wave " + w + " is undone", all.state(), atFirst);
        }
        all.setStation(1, 9, 90, 9);
        all.undo();
        due("14: the station is undone", all.state(), atFirst);
        for (int s = 0; s < 3; s++) {
            all.setRate(s, true, 2);
            all.setRate(s, false, 3);
        }
        all.pass(9);
        String sunk = all.state();
        all.pass(2);
        all.undo();
        due("14: silt and sinking are undone", all.state(), sunk);
        all.pass(2);
        all.undo();
        all.undo();
        all.pass(9);
        due("14: the same hours once more", all.state(), sunk);

        Floats y = flatWithGap();
        String before = y.state();
        y.mend(0, 0, 1, 0);
        y.setRate(1, false, 3);
        y.level(1);
        y.turn(2, false);
        for (int i = 0; i < 4; i++) {
            y.undo();
        }
        due("14: mending, rates, notes and turns are undone", y.state(), before);
        y.pass(3);
        y.level(1);
        due("14: what was undone is not noted", y.hour(1, 10, 3), Math.floorDiv(6 * 10, 13));
        y.mend(0, 0, 1, 0);
        String once = y.state();
        y.mend(0, 0, 1, 1);
        Checks.isTrue("14: mending anew changes something", !once.equals(y.state()));
        y.undo();
        due("14: what was mended before is there again", y.state(), once);
    }

    private static void promise15() {
        Floats x = new Floats();
        due("15: keep() at the hour 0", x.keep(), 0);
        due("15: it is no act", x.count(5), 0);
        x.pass(4);
        due("15: keep() at the hour 4", x.keep(), 4);
        x.undo();
        due("15: undo leaves the snapshot", x.restore(), 4);
        x.pass(2);
        due("15: in place of the one that was", x.restore(), 4);
    }

    private static void promise16() {
        Floats x = new Floats();
        due("16: no snapshot", x.restore(), NONE);
        due("16: which is no act", x.count(5), 0);
        x.setWave(1, 700, 25, 3);
        makeGap(x);
        x.mend(0, 0, 2, 1);
        String kept = x.state();
        x.keep();
        x.setRate(0, true, 1);
        x.pass(3);
        x.mend(0, 0, 1, 0);
        x.forget(0);
        x.level(0);
        x.turn(0, false);
        String later = x.state();
        due("16: restore()", x.restore(), 10);
        due("16: the state", x.state(), kept);
        due("16: it is an act", x.count(5), 4);
        due("16: undo()", x.undo(), 3);
        due("16: the state ahead of it", x.state(), later);
        due("16: the snapshot stays", x.restore(), 10);
        due("16: also where nothing changes it is an act", x.restore(), 10);
        x.undo();
        due("16: the state", x.state(), kept);
        x.pass(1);
        x.restore();
        due("16: what happened behind it is not in the snapshot", x.state(), kept);
        x.write("x1");
        x.restore();
        due("16: the text is not in it", x.count(6), 2);
    }

    private static void promise17() {
        Floats x = new Floats();
        int[] heights = {-1000, -667, -334, 0, 333, 666, 1000, 667, 334, 0, -333, -666};
        for (int h = -24; h <= 200; h++) {
            due("17: sea(" + h + ")", x.sea(h), 100000 + heights[Math.floorMod(h, 12)]);
        }
        due("17: sea(-25)", x.sea(-25), BAD_VALUE);
        due("17: sea(201)", x.sea(201), BAD_VALUE);
        x.setWave(1, 100, 3, 2);
        x.setWave(0, 0, 12, 0);
        int[] three = {34, -100, 33};
        for (int h = -24; h <= 24; h++) {
            due("17: a period of 3: sea(" + h + ")", x.sea(h), 100000 + three[Math.floorMod(h, 3)]);
        }
        x.setWave(0, 3000, 48, 0);
        x.setWave(1, 3000, 24, 0);
        x.setWave(2, 3000, 12, 6);
        due("17: the sum of three", x.sea(0), 97000);
        due("17: the sum of three", x.sea(24), 103000);
        x.pass(120);
        due("17: it does not go with the hour", x.sea(0), 97000);
    }

    private static void promise18() {
        Floats x = new Floats();
        due("18: outside(0, 0)", x.outside(0, 0), 99000);
        due("18: outside(1, 0)", x.outside(1, 0), 99334);
        due("18: outside(2, 0)", x.outside(2, 0), 99667);
        due("18: outside(2, 8)", x.outside(2, 8), 101000);
        due("18: outside(2, 200)", x.outside(2, 200), 101000);
        x.setStation(1, 12, 33, -50);
        due("18: rounded towards the lesser one: 33 * -667 / 100 - 50", x.outside(1, 1), 99729);
        due("18: 33 * 667 / 100 - 50", x.outside(1, 7), 100170);
        due("18: no such station", x.outside(-1, 0), UNKNOWN);
        due("18: no such station", x.outside(3, 0), UNKNOWN);
        due("18: UNKNOWN ahead of BAD_VALUE", x.outside(3, -1), UNKNOWN);
        due("18: the hour -1", x.outside(0, -1), BAD_VALUE);
        due("18: the hour 201", x.outside(0, 201), BAD_VALUE);
    }

    private static void promise19() {
        Floats x = flat();
        x.setStation(0, 4, 150, -77);
        x.setRate(0, false, 2);
        x.setRate(0, true, 3);
        makeGap(x);
        x.level(0);
        x.mend(0, 0, 1, 0);
        x.turn(0, false);
        x.pass(1);
        int[] numbers = {4, 150, 99923, 99923, 5, 2, 3, 3, 0, 6, 2, 4, 2};
        for (int w = 0; w < numbers.length; w++) {
            due("19: station(0, " + w + ")", x.station(0, w), numbers[w]);
        }
        int[] other = {1, 100, 100000, 100000, 0, 0, 0, 0, 1, 11, 0, 0, 1};
        for (int w = 0; w < other.length; w++) {
            due("19: station(1, " + w + ")", x.station(1, w), other[w]);
        }
        due("19: no such station", x.station(-1, 0), UNKNOWN);
        due("19: no such station", x.station(3, 0), UNKNOWN);
        due("19: UNKNOWN ahead of BAD_VALUE", x.station(3, 13), UNKNOWN);
        due("19: what is -1", x.station(0, -1), BAD_VALUE);
        due("19: what is 13", x.station(0, 13), BAD_VALUE);
    }

    private static void promise20() {
        Floats x = flat();
        x.setRate(0, true, 1);
        makeGap(x);
        x.level(0);
        int[] read = {100002, 100000, NONE, 2, 0};
        int[] missing = {NONE, NONE, NONE, 3, 1};
        int[] mended = {NONE, NONE, 100000, 3, 2};
        for (int w = 0; w <= 4; w++) {
            due("20: hour(0, 2, " + w + ")", x.hour(0, 2, w), read[w]);
            due("20: hour(0, 3, " + w + ")", x.hour(0, 3, w), missing[w]);
        }
        x.mend(0, 0, 2, -1);
        for (int w = 0; w <= 4; w++) {
            due("20: mended: hour(0, 3, " + w + ")", x.hour(0, 3, w), mended[w]);
        }
        due("20: no such station", x.hour(-1, 0, 0), UNKNOWN);
        due("20: no such station", x.hour(3, 0, 0), UNKNOWN);
        due("20: UNKNOWN ahead of BAD_VALUE", x.hour(3, -1, 5), UNKNOWN);
        due("20: the hour -1", x.hour(0, -1, 0), BAD_VALUE);
        due("20: what is -1", x.hour(0, 0, -1), BAD_VALUE);
        due("20: what is 5", x.hour(0, 0, 5), BAD_VALUE);
        due("20: BAD_VALUE ahead of NONE", x.hour(0, 10, 5), BAD_VALUE);
        for (int w = 0; w <= 4; w++) {
            due("20: the hour of now has not passed", x.hour(0, 10, w), NONE);
            due("20: nor has a later one", x.hour(0, 120, w), NONE);
            due("20: nor has one that is none", x.hour(0, Integer.MAX_VALUE, w), NONE);
        }
        due("20: the last one", x.hour(0, 9, 0), 100009);
        x.pass(110);
        due("20: the last one of all", x.hour(0, 119, 0), 100119);
        due("20: behind it", x.hour(0, 120, 0), NONE);
    }

    private static void promise21() {
        Floats x = new Floats();
        x.turn(0, false);
        x.pass(2);
        x.turn(0, true);
        x.pass(3);
        x.turn(0, false);
        x.pass(1);
        due("21: one that may yet grow is no inner one", x.gap(0, 1, 2), 0);
        due("21: its last hour", x.gap(0, 1, 1), 5);
        x.turn(0, true);
        due("21: nor when it is on again", x.gap(0, 1, 2), 0);
        x.pass(1);
        due("21: it is one when there is a reading", x.gap(0, 1, 2), 1);
        x.turn(0, false);
        x.pass(113);
        int[][] gaps = {{0, 1, 0, 0}, {5, 5, 1, 0}, {7, 119, 0, 0}};
        for (int g = 0; g < 3; g++) {
            for (int w = 0; w <= 3; w++) {
                due("21: gap(0, " + g + ", " + w + ")", x.gap(0, g, w), gaps[g][w]);
            }
        }
        x.mend(0, 1, 2, 3);
        due("21: mended hours", x.gap(0, 1, 3), 1);
        due("21: of another gap", x.gap(0, 2, 3), 0);
        due("21: it is one gap still", x.gap(0, 1, 0), 5);
        due("21: an inner one still", x.gap(0, 1, 2), 1);
        due("21: all gaps, the one from 0 on too", x.station(0, 10), 3);
        Floats early = new Floats();
        early.pass(1);
        early.turn(0, false);
        early.pass(1);
        early.turn(0, true);
        early.pass(1);
        due("21: an inner one at the hour 1", early.gap(0, 0, 2), 1);
        due("21: its first hour", early.gap(0, 0, 0), 1);
        due("21: no such gap", x.gap(0, 3, 0), UNKNOWN);
        due("21: no such gap", x.gap(0, -1, 0), UNKNOWN);
        due("21: no such gap", x.gap(1, 0, 0), UNKNOWN);
        due("21: no such station", x.gap(-1, 0, 0), UNKNOWN);
        due("21: no such station", x.gap(3, 0, 0), UNKNOWN);
        due("21: UNKNOWN ahead of BAD_VALUE", x.gap(0, 3, 4), UNKNOWN);
        due("21: what is -1", x.gap(0, 0, -1), BAD_VALUE);
        due("21: what is 4", x.gap(0, 0, 4), BAD_VALUE);
    }

    /** A flat sea, a gap of 0 at 21 and 22, hours up to 45, and one step up at an hour. */
    private static Floats withStepAt(int station, int hour) {
        Floats x = flat();
        for (int h = 0; h < 45; h++) {
            x.setRate(station, true, h + 1 == hour ? 1 : 0);
            x.turn(0, h != 21 && h != 22);
            x.pass(1);
        }
        return x;
    }

    private static void promise22() {
        for (int h = 1; h < 45; h++) {
            boolean counted = h >= 9 && h <= 20 || h >= 24 && h <= 35;
            Floats x = withStepAt(0, h);
            due("22: a step at " + h, x.misfit(0, 0, 1, 0), counted ? 1 : 0);
            due("22: a step at " + h + ", phase 2", x.misfit(0, 0, 1, 2), counted ? 1 : 0);
            Floats y = withStepAt(1, h);
            due("22: a step of the neighbour at " + h, y.misfit(0, 0, 1, 0), counted ? 1 : 0);
            boolean later = h >= 11 && h <= 22 || h >= 26 && h <= 37;
            due("22: a step of the neighbour at " + h + ", phase 2", y.misfit(0, 0, 1, 2), later ? 1 : 0);
            boolean sooner = h >= 6 && h <= 17 || h >= 21 && h <= 32;
            due("22: a step of the neighbour at " + h + ", phase -3", y.misfit(0, 0, 1, -3), sooner ? 1 : 0);
        }
        Floats waves = new Floats();
        waves.setWave(0, 60, 12, 0);
        makeGap(waves);
        due("22: the size of each: 9 and 8 by the phase 0, where they turn at 1, 2, 8 and 9",
                waves.misfit(0, 0, 1, 0), 40);
        due("22: by the phase 1", waves.misfit(0, 0, 1, 1), 0);

        Floats missing = flat();
        missing.setRate(0, true, 1);
        missing.pass(12);
        missing.turn(1, false);
        missing.pass(1);
        missing.turn(1, true);
        missing.pass(8);
        missing.turn(0, false);
        missing.pass(2);
        missing.turn(0, true);
        missing.pass(5);
        due("22: 12 less 2, and the 4 behind", missing.misfit(0, 0, 1, 0), 10 + 4);
        due("22: less the one that has not passed", missing.misfit(0, 0, 1, 1), 10 + 3);
        missing.mend(0, 0, 2, 0);
        due("22: what is mended is no reading", missing.misfit(0, 0, 1, 0), 10 + 4);
        missing.level(0);
        due("22: of corrected readings", missing.misfit(0, 0, 1, 0), 0);
    }

    private static void promise22Errors() {
        Floats x = flatWithGap();
        due("22: no such station", x.misfit(-1, 0, 1, 0), UNKNOWN);
        due("22: no such station", x.misfit(3, 0, 1, 0), UNKNOWN);
        due("22: no such gap", x.misfit(0, 1, 1, 0), UNKNOWN);
        due("22: no such gap", x.misfit(0, -1, 1, 0), UNKNOWN);
        due("22: no such neighbour", x.misfit(0, 0, -1, 0), UNKNOWN);
        due("22: no such neighbour", x.misfit(0, 0, 3, 13), UNKNOWN);
        due("22: UNKNOWN ahead of BAD_VALUE", x.misfit(0, 1, 0, 0), UNKNOWN);
        due("22: phase -13", x.misfit(0, 0, 1, -13), BAD_VALUE);
        due("22: phase 13", x.misfit(0, 0, 1, 13), BAD_VALUE);
        due("22: its own neighbour", x.misfit(0, 0, 0, 0), BAD_VALUE);
        due("22: phase -2", x.misfit(0, 0, 1, -2), 1);
        due("22: phase -3", x.misfit(0, 0, 1, -3), NONE);
        due("22: phase 3", x.misfit(0, 0, 1, 3), NONE);
        x.turn(2, false);
        x.pass(1);
        due("22: no inner gap", x.misfit(2, 0, 1, 0), NOT_POSSIBLE);
        due("22: NOT_POSSIBLE ahead of NONE", x.misfit(2, 0, 1, 12), NOT_POSSIBLE);
        due("22: BAD_VALUE ahead of NOT_POSSIBLE", x.misfit(2, 0, 2, 0), BAD_VALUE);
    }

    /** A flat sea, a gap of 0 at 21 and 22, and the station 1 without readings from one hour to another. */
    private static Floats withoutNeighbour(int from, int to) {
        Floats x = flat();
        for (int h = 0; h < 45; h++) {
            x.turn(0, h != 21 && h != 22);
            x.turn(1, h < from || h > to);
            x.pass(1);
        }
        return x;
    }

    private static void promise23() {
        due("23: of equal ones 0", withoutNeighbour(50, 50).bestPhase(0, 0, 1), 100);
        due("23: -1 where 0 to 3 can't be", withoutNeighbour(23, 23).bestPhase(0, 0, 1), 99);
        due("23: 1 where -3 to 0 can't be", withoutNeighbour(20, 20).bestPhase(0, 0, 1), 101);
        due("23: 2 where -2 to 1 can't be", withoutNeighbour(21, 21).bestPhase(0, 0, 1), 102);
        due("23: of -3 and 3 the one below 0", withoutNeighbour(21, 22).bestPhase(0, 0, 1), 97);
        due("23: -12", withoutNeighbour(12, 45).bestPhase(0, 0, 1), 88);
        due("23: not -13", withoutNeighbour(11, 45).bestPhase(0, 0, 1), NONE);
        due("23: 12", withoutNeighbour(0, 31).bestPhase(0, 0, 1), 112);
        due("23: not 13", withoutNeighbour(0, 32).bestPhase(0, 0, 1), NONE);

        Floats x = new Floats();
        x.setWave(1, 800, 31, 5);
        x.setStation(0, 9, 100, 0);
        x.setStation(1, 2, 100, 500);
        x.setStation(2, 12, 100, -500);
        x.pass(30);
        x.turn(0, false);
        x.pass(5);
        x.turn(0, true);
        x.pass(30);
        due("23: the least misfit is at the difference of delays", x.bestPhase(0, 0, 1), 93);
        due("23: its misfit", x.misfit(0, 0, 1, -7), 0);
        due("23: the other way", x.bestPhase(0, 0, 2), 103);

        Floats y = flatWithGap();
        due("23: no such station", y.bestPhase(-1, 0, 1), UNKNOWN);
        due("23: no such station", y.bestPhase(3, 0, 1), UNKNOWN);
        due("23: no such gap", y.bestPhase(0, 1, 1), UNKNOWN);
        due("23: no such gap", y.bestPhase(0, -1, 1), UNKNOWN);
        due("23: no such neighbour", y.bestPhase(0, 0, -1), UNKNOWN);
        due("23: no such neighbour", y.bestPhase(0, 0, 3), UNKNOWN);
        due("23: UNKNOWN ahead of BAD_VALUE", y.bestPhase(0, 1, 0), UNKNOWN);
        due("23: its own neighbour", y.bestPhase(0, 0, 0), BAD_VALUE);
        y.turn(2, false);
        y.pass(1);
        due("23: no inner gap", y.bestPhase(2, 0, 1), NOT_POSSIBLE);
        due("23: BAD_VALUE ahead of NOT_POSSIBLE", y.bestPhase(2, 0, 2), BAD_VALUE);
    }

    private static void promise24() {
        Floats x = new Floats();
        x.pass(7);
        due("24: nothing is behind the last hour", x.high(0, 0), NONE);
        x.pass(1);
        due("24: the hour 6", x.high(0, 0), 6);
        due("24: not 7 of the station 1 yet", x.high(1, 0), NONE);
        x.pass(40);
        for (int rank = 0; rank < 4; rank++) {
            due("24: high(0, " + rank + ")", x.high(0, rank), 6 + 12 * rank);
            due("24: high(2, " + rank + ")", x.high(2, rank), 8 + 12 * rank);
        }
        due("24: high(0, 4)", x.high(0, 4), NONE);
        due("24: high(0, -1)", x.high(0, -1), BAD_VALUE);
        due("24: no such station", x.high(-1, 0), UNKNOWN);
        due("24: no such station", x.high(3, 0), UNKNOWN);
        due("24: UNKNOWN ahead of BAD_VALUE", x.high(3, -1), UNKNOWN);

        Floats flat = flat();
        flat.setWave(0, 300, 3, 0);
        flat.pass(20);
        due("24: two that are equal are none", flat.high(0, 0), NONE);

        Floats all = flat();
        all.setWave(0, 300, 2, 1);
        all.pass(120);
        due("24: the hour 0 is none", all.high(0, 0), 2);
        due("24: the last of all", all.high(0, 58), 118);
        Floats soon = flat();
        soon.setWave(0, 300, 2, 0);
        soon.pass(3);
        due("24: the hour 1", soon.high(0, 0), 1);
        due("24: only that", soon.high(0, 1), NONE);
        due("24: no more", all.high(0, 59), NONE);

        Floats gap = new Floats();
        gap.pass(6);
        gap.turn(0, false);
        gap.pass(1);
        gap.turn(0, true);
        gap.pass(5);
        due("24: the value is not there", gap.high(0, 0), NONE);
        gap.mend(0, 0, 1, 1);
        due("24: it is mended", gap.high(0, 0), 6);
        gap.undo();
        gap.turn(0, false);
        gap.pass(5);
        gap.turn(0, true);
        gap.pass(3);
        due("24: the next one has no hour ahead of it", gap.station(0, 9), 14);
        due("24: so it waits for a later one", gap.high(0, 0), 18);

        Floats sinking = flat();
        sinking.setRate(0, true, 1);
        sinking.pass(1);
        sinking.setRate(0, true, 0);
        sinking.pass(9);
        due("24: a step is no high water", sinking.high(0, 0), NONE);
        sinking.level(0);
        due("24: the corrected one is", sinking.hour(0, 1, 1), 100001);
        due("24: but not where two are equal", sinking.high(0, 0), NONE);
    }

    private static void promise25() {
        Floats x = flatWithGap();
        x.turn(2, false);
        x.pass(2);
        x.mend(0, 0, 1, 0);
        x.write("x0;");
        int[] counts = {12, 2, 8 + 12 + 10, 4 + 2, 4, 4, 3};
        for (int w = 0; w < counts.length; w++) {
            due("25: count(" + w + ")", x.count(w), counts[w]);
        }
        due("25: count(-1)", x.count(-1), BAD_VALUE);
        due("25: count(7)", x.count(7), BAD_VALUE);
    }

    // ---- what is said of all calls

    private static void actsAreRecorded() {
        for (int act = 0; act < 12; act++) {
            Floats x = new Floats();
            x.setRate(2, false, 1);
            x.keep();
            if (act >= 7) {
                x.followed("p3;x0;p4;o0;p3");
            }
            if (act == 8) {
                x.mend(0, 0, 1, 0);
            }
            x.write("x2;p1");
            String before = x.state();
            int states = x.count(5);
            int answer = doAct(x, act);
            Checks.isTrue("the act " + act + " answers " + answer, answer >= 0);
            due("the states behind the act " + act, x.count(5), states + 1);
            Checks.isTrue("the act " + act + " changes something", !before.equals(x.state()));
            due("undo() of the act " + act, x.undo(), states);
            due("the state when the act " + act + " is undone", x.state(), before);
        }
    }

    private static int doAct(Floats x, int act) {
        switch (act) {
            case 0: return x.setWave(2, 5, 5, 5);
            case 1: return x.setStation(1, 5, 55, 5);
            case 2: return x.setRate(1, true, 5);
            case 3: return x.setRate(1, false, 5);
            case 4: return x.turn(2, false);
            case 5: return x.pass(5);
            case 6: return x.follow();
            case 7: return x.mend(0, 0, 1, 0);
            case 8: return x.forget(0);
            case 9: return x.level(0);
            case 10: return x.clean(2);
            default: return x.restore();
        }
    }

    private static void refusedCallsChangeNothing() {
        Floats x = flatWithGap();
        x.mend(0, 0, 1, 0);
        x.undo();
        x.write("p99;p99");
        String before = x.told();
        int[] answers = {x.setWave(0, 1, 2, 3), x.setWave(3, 1, 2, 3), x.setStation(0, 1, 100, 1),
            x.setStation(0, 1, 1, 1), x.setRate(0, true, 21), x.setRate(0, true, 0), x.turn(0, true),
            x.turn(3, true), x.clean(0), x.clean(3), x.level(3), x.pass(111), x.pass(0), x.follow(),
            x.mend(0, 0, 0, 0), x.mend(0, 0, 1, 12), x.mend(0, 9, 1, 0), x.forget(0), x.forget(3), x.restore()};
        for (int i = 0; i < answers.length; i++) {
            Checks.isTrue("the call " + i + " is refused", answers[i] < 0);
        }
        due("nothing is changed", x.told(), before);
    }

    private static void farArguments() {
        Floats x = flatWithGap();
        for (int f : FAR) {
            due("far: setWave", x.setWave(f, 0, 2, 0), UNKNOWN);
            due("far: setWave", x.setWave(0, f < 0 ? f : f * 4, 2, 0), BAD_VALUE);
            due("far: setWave", x.setWave(0, 0, f, 0), BAD_VALUE);
            due("far: setWave", x.setWave(0, 0, 2, f), BAD_VALUE);
            due("far: setStation", x.setStation(f, 0, 100, 0), UNKNOWN);
            due("far: setStation", x.setStation(0, f, 100, 0), BAD_VALUE);
            due("far: setStation", x.setStation(0, 0, f, 0), BAD_VALUE);
            due("far: setRate", x.setRate(f, true, 0), UNKNOWN);
            due("far: setRate", x.setRate(0, true, f), BAD_VALUE);
            due("far: turn", x.turn(f, true), UNKNOWN);
            due("far: clean", x.clean(f), UNKNOWN);
            due("far: level", x.level(f), UNKNOWN);
            due("far: pass", x.pass(f), BAD_VALUE);
            due("far: mend", x.mend(f, 0, 1, 0), UNKNOWN);
            due("far: mend", x.mend(0, f, 1, 0), UNKNOWN);
            due("far: mend", x.mend(0, 0, f, 0), UNKNOWN);
            due("far: mend", x.mend(0, 0, 1, f), BAD_VALUE);
            due("far: forget", x.forget(f), UNKNOWN);
            due("far: sea", x.sea(f), BAD_VALUE);
            due("far: outside", x.outside(f, 0), UNKNOWN);
            due("far: outside", x.outside(0, f), BAD_VALUE);
            due("far: station", x.station(f, 0), UNKNOWN);
            due("far: station", x.station(0, f), BAD_VALUE);
            due("far: hour", x.hour(f, 0, 0), UNKNOWN);
            due("far: hour", x.hour(0, f, 0), f < 0 ? BAD_VALUE : NONE);
            due("far: hour", x.hour(0, 0, f), BAD_VALUE);
            due("far: gap", x.gap(f, 0, 0), UNKNOWN);
            due("far: gap", x.gap(0, f, 0), UNKNOWN);
            due("far: gap", x.gap(0, 0, f), BAD_VALUE);
            due("far: misfit", x.misfit(f, 0, 1, 0), UNKNOWN);
            due("far: misfit", x.misfit(0, f, 1, 0), UNKNOWN);
            due("far: misfit", x.misfit(0, 0, f, 0), UNKNOWN);
            due("far: misfit", x.misfit(0, 0, 1, f), BAD_VALUE);
            due("far: bestPhase", x.bestPhase(f, 0, 1), UNKNOWN);
            due("far: bestPhase", x.bestPhase(0, f, 1), UNKNOWN);
            due("far: bestPhase", x.bestPhase(0, 0, f), UNKNOWN);
            due("far: high", x.high(f, 0), UNKNOWN);
            due("far: high", x.high(0, f), f < 0 ? BAD_VALUE : NONE);
            due("far: count", x.count(f), BAD_VALUE);
        }
    }
}

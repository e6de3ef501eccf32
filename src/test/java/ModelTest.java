import java.util.ArrayDeque;
import java.util.ArrayList;
import java.util.Deque;
import java.util.List;
import java.util.Random;
import java.util.TreeMap;

/**
 * Runs of calls, drawn with fixed seeds, whose answers are compared with those of a model that is
 * written anew from the words of the document, in the plainest form and without the class's own ways.
 */
public final class ModelTest {
    private static final int RUNS = 4000;
    private static final int CALLS = 512;

    public static void main(String[] args) {
        for (int run = 0; run < RUNS && Checks.wrongSoFar() == 0; run++) {
            compare(run);
        }
        System.out.println("answers: " + answers + ", of these errors or NONE: " + refusals
                + ", mended gaps: " + mended + ", best phases: " + phases);
        Checks.isTrue("the runs mend many gaps", mended > RUNS);
        Checks.isTrue("the runs find many best phases", phases > RUNS);
        Checks.end();
    }

    private static long answers = 0;
    private static long refusals = 0;
    private static long mended = 0;
    private static long phases = 0;

    private static void compare(int run) {
        Random random = new Random(run);
        SiltedFloats x = new SiltedFloats();
        Model m = new Model();
        for (int call = 0; call < CALLS && Checks.wrongSoFar() == 0; call++) {
            int kind = drawKind(random, run % 4, call);
            int[] a = new int[4];
            drawArguments(random, kind, a, m);
            int got = ask(x, kind, a);
            int want = m.ask(kind, a);
            if (got != want) {
                Checks.due("run " + run + ", call " + call + ": " + NAMES[kind] + " " + a[0] + ", " + a[1] + ", "
                        + a[2] + ", " + a[3], got, want);
            }
            answers++;
            if (got < 0) {
                refusals++;
            } else if (kind == 8) {
                mended++;
            } else if (kind == 21) {
                phases++;
            }
        }
        Checks.due("calls that differ in run " + run, Checks.wrongSoFar(), 0);
    }

    private static final String[] NAMES = {"setWave", "setStation", "setRate", "turn", "clean", "level", "pass",
        "follow", "mend", "forget", "type", "clearText", "undo", "keep", "restore", "sea", "outside", "station",
        "hour", "gap", "misfit", "bestPhase", "high", "count"};
    private static final int[] WEIGHTS = {0, 0, 5, 10, 3, 5, 14, 3, 14, 1, 20, 2, 3, 1, 1, 2, 3, 12, 20, 8, 10, 5, 5, 8};

    private static int drawKind(Random random, int flavour, int call) {
        if (call < 12 && flavour != 3) {
            int[] early = {0, 1, 2, 0, 1, 15, 16, 3};
            return early[random.nextInt(early.length)];
        }
        if (flavour == 1 && random.nextInt(40) == 0) {
            return random.nextInt(2);
        }
        if (flavour == 2 && random.nextInt(3) == 0) {
            int[] history = {12, 13, 14, 6, 3, 25};
            int kind = history[random.nextInt(history.length)];
            return kind == 25 ? 7 : kind;
        }
        int sum = 0;
        for (int w : WEIGHTS) {
            sum += w;
        }
        int at = random.nextInt(sum);
        int kind = 0;
        while (at >= WEIGHTS[kind]) {
            at -= WEIGHTS[kind];
            kind++;
        }
        return kind;
    }

    private static int near(Random random, int least, int most) {
        int kind = random.nextInt(60);
        if (kind == 0) {
            return least - 1;
        }
        if (kind == 1) {
            return most + 1;
        }
        if (kind == 2) {
            return random.nextInt();
        }
        if (kind < 6) {
            return least;
        }
        return kind < 9 ? most : least + random.nextInt(most - least + 1);
    }

    private static void drawArguments(Random random, int kind, int[] a, Model m) {
        a[0] = near(random, 0, 2);
        switch (kind) {
            case 0:
                a[1] = near(random, 0, 3000);
                a[2] = near(random, 2, 48);
                a[3] = near(random, 0, 47);
                break;
            case 1:
                a[1] = near(random, 0, 12);
                a[2] = near(random, 10, 200);
                a[3] = near(random, -2000, 2000);
                break;
            case 2:
                a[1] = random.nextInt(2);
                a[2] = near(random, 0, random.nextInt(2) == 0 ? 20 : 3);
                break;
            case 3:
                a[1] = random.nextInt(3) == 0 ? 0 : 1;
                break;
            case 6:
                a[0] = random.nextInt(30) == 0 ? near(random, 1, 120) : 1 + random.nextInt(8);
                break;
            case 8:
            case 20:
                a[1] = near(random, 0, 2);
                a[2] = random.nextInt(8) == 0 ? near(random, 0, 2) : Math.floorMod(a[0] + 1 + random.nextInt(2), 3);
                a[3] = near(random, -12, 12) / (random.nextInt(2) == 0 ? 3 : 1);
                break;
            case 10:
                a[0] = drawCharacter(random, m);
                break;
            case 15:
                a[0] = near(random, -24, 200);
                break;
            case 16:
                a[1] = near(random, 0, 200);
                break;
            case 17:
                a[1] = near(random, 0, 12);
                break;
            case 18:
                a[1] = near(random, 0, Math.max(m.now.hour, 1));
                a[2] = near(random, 0, 4);
                break;
            case 19:
                a[1] = near(random, 0, 3);
                a[2] = near(random, 0, 3);
                break;
            case 21:
                a[1] = near(random, 0, 2);
                a[2] = random.nextInt(8) == 0 ? near(random, 0, 2) : Math.floorMod(a[0] + 1 + random.nextInt(2), 3);
                break;
            case 22:
                a[1] = near(random, 0, 10);
                break;
            case 23:
                a[0] = near(random, 0, 6);
                break;
            default:
                break;
        }
    }

    /** Mostly a character that goes on with the text without a fault. */
    private static int drawCharacter(Random random, Model m) {
        if (random.nextInt(60) == 0) {
            return random.nextInt(3) == 0 ? random.nextInt(65536) : " q3/:9;p0".charAt(random.nextInt(9));
        }
        String allowed = "pxocl";
        if (m.text.length() > 0) {
            char last = m.text.charAt(m.text.length() - 1);
            if (last == 'p') {
                allowed = "1123";
            } else if ("xocl".indexOf(last) >= 0) {
                allowed = "012";
            } else if (last != ';') {
                allowed = m.text.length() > 1 && m.text.charAt(m.text.length() - 2) == 'p' ? ";;;0" : ";";
            }
        }
        return allowed.charAt(random.nextInt(allowed.length()));
    }

    private static int ask(SiltedFloats x, int kind, int[] a) {
        switch (kind) {
            case 0: return x.setWave(a[0], a[1], a[2], a[3]);
            case 1: return x.setStation(a[0], a[1], a[2], a[3]);
            case 2: return x.setRate(a[0], a[1] == 1, a[2]);
            case 3: return x.turn(a[0], a[1] == 1);
            case 4: return x.clean(a[0]);
            case 5: return x.level(a[0]);
            case 6: return x.pass(a[0]);
            case 7: return x.follow();
            case 8: return x.mend(a[0], a[1], a[2], a[3]);
            case 9: return x.forget(a[0]);
            case 10: return x.type((char) a[0]);
            case 11: return x.clearText();
            case 12: return x.undo();
            case 13: return x.keep();
            case 14: return x.restore();
            case 15: return x.sea(a[0]);
            case 16: return x.outside(a[0], a[1]);
            case 17: return x.station(a[0], a[1]);
            case 18: return x.hour(a[0], a[1], a[2]);
            case 19: return x.gap(a[0], a[1], a[2]);
            case 20: return x.misfit(a[0], a[1], a[2], a[3]);
            case 21: return x.bestPhase(a[0], a[1], a[2]);
            case 22: return x.high(a[0], a[1]);
            default: return x.count(a[0]);
        }
    }

    private static long down(long number, long divisor) {
        long quotient = number / divisor;
        return quotient * divisor > number ? quotient - 1 : quotient;
    }

    private static final class St {
        long delay;
        long scale = 100;
        long offset;
        long floats;
        int silt;
        int silting;
        int sinking;
        int sunk;
        boolean on = true;
        TreeMap<Integer, Long> readings = new TreeMap<>();
        TreeMap<Integer, Long> mends = new TreeMap<>();
        TreeMap<Integer, Integer> notes = new TreeMap<>();

        St copy() {
            St c = new St();
            c.delay = delay;
            c.scale = scale;
            c.offset = offset;
            c.floats = floats;
            c.silt = silt;
            c.silting = silting;
            c.sinking = sinking;
            c.sunk = sunk;
            c.on = on;
            c.readings = new TreeMap<>(readings);
            c.mends = new TreeMap<>(mends);
            c.notes = new TreeMap<>(notes);
            return c;
        }

        long correction(int h) {
            int i = notes.floorKey(h);
            Integer k = notes.higherKey(h);
            long n = notes.get(i);
            return k == null ? n : n + down((notes.get(k) - n) * (h - i), k - i);
        }

        long corrected(int h) {
            return readings.get(h) - correction(h);
        }

        /** Pairs of first and last hours. */
        List<int[]> gaps(int hour) {
            List<int[]> all = new ArrayList<>();
            int[] open = null;
            for (int h = 0; h < hour; h++) {
                if (readings.containsKey(h)) {
                    open = null;
                } else if (open == null) {
                    open = new int[] {h, h};
                    all.add(open);
                } else {
                    open[1] = h;
                }
            }
            return all;
        }

        boolean reads(int from, int to) {
            return readings.subMap(from, true, to, true).size() == to - from + 1;
        }

        Long value(int h) {
            return readings.containsKey(h) ? Long.valueOf(corrected(h)) : mends.get(h);
        }
    }

    private static final class World {
        int hour;
        int[][] waves = {{1000, 12, 0}, {0, 24, 0}, {0, 24, 0}};
        St[] st = {new St(), new St(), new St()};

        World copy() {
            World c = new World();
            c.hour = hour;
            for (int i = 0; i < 3; i++) {
                c.waves[i] = waves[i].clone();
                c.st[i] = st[i].copy();
            }
            return c;
        }

        long sea(long h) {
            long sum = 0;
            for (int[] w : waves) {
                long p = ((h + w[2]) % w[1] + w[1]) % w[1];
                long x = down(4L * w[0] * p, w[1]);
                sum += 2 * p <= w[1] ? x - w[0] : 3L * w[0] - x;
            }
            return sum;
        }

        long outside(St s, long h) {
            return down(s.scale * sea(h - s.delay), 100) + s.offset;
        }

        void hourPasses() {
            for (St s : st) {
                s.floats += down((outside(s, hour) - s.floats) * (100 - s.silt), 100);
                if (s.on) {
                    s.readings.put(hour, s.floats + s.sunk);
                }
                if (s.silting != 0 && (hour + 1) % s.silting == 0) {
                    s.silt = Math.min(90, s.silt + 1);
                }
                if (s.sinking != 0 && (hour + 1) % s.sinking == 0) {
                    s.sunk++;
                }
            }
            hour++;
        }
    }

    private static final class Model {
        World now = new World();
        World snapshot = null;
        Deque<World> history = new ArrayDeque<>();
        String text = "";

        Model() {
            for (int s = 0; s < 3; s++) {
                now.st[s].delay = s;
                now.st[s].floats = now.outside(now.st[s], 0);
                now.st[s].notes.put(0, 0);
            }
        }

        void act() {
            history.addLast(now.copy());
            if (history.size() > 4) {
                history.removeFirst();
            }
        }

        boolean in(int x, int least, int most) {
            return least <= x && x <= most;
        }

        int ask(int kind, int[] a) {
            switch (kind) {
                case 0: return setWave(a[0], a[1], a[2], a[3]);
                case 1: return setStation(a[0], a[1], a[2], a[3]);
                case 6: return pass(a[0]);
                case 7: return follow();
                case 10:
                    if (text.length() == 60) {
                        return -3;
                    }
                    text += (char) a[0];
                    return text.length();
                case 11:
                    int length = text.length();
                    text = "";
                    return length;
                case 12:
                    if (history.isEmpty()) {
                        return -5;
                    }
                    now = history.removeLast();
                    return history.size();
                case 13:
                    snapshot = now.copy();
                    return now.hour;
                case 14:
                    if (snapshot == null) {
                        return -5;
                    }
                    act();
                    now = snapshot.copy();
                    return now.hour;
                case 15: return in(a[0], -24, 200) ? (int) now.sea(a[0]) + 100000 : -2;
                case 23: return count(a[0]);
                default: return in(a[0], 0, 2) ? askStation(kind, now.st[a[0]], a) : -1;
            }
        }

        int setWave(int wave, int amplitude, int period, int phase) {
            if (!in(wave, 0, 2)) {
                return -1;
            }
            if (!in(amplitude, 0, 3000) || !in(period, 2, 48) || !in(phase, 0, 47)) {
                return -2;
            }
            if (now.hour != 0) {
                return -4;
            }
            int[] numbers = {amplitude, period, phase};
            if (java.util.Arrays.equals(numbers, now.waves[wave])) {
                return -5;
            }
            act();
            now.waves[wave] = numbers;
            for (St s : now.st) {
                s.floats = now.outside(s, 0);
            }
            return (int) now.sea(0) + 100000;
        }

        int setStation(int station, int delay, int scale, int offset) {
            if (!in(station, 0, 2)) {
                return -1;
            }
            if (!in(delay, 0, 12) || !in(scale, 10, 200) || !in(offset, -2000, 2000)) {
                return -2;
            }
            if (now.hour != 0) {
                return -4;
            }
            St s = now.st[station];
            if (s.delay == delay && s.scale == scale && s.offset == offset) {
                return -5;
            }
            act();
            s.delay = delay;
            s.scale = scale;
            s.offset = offset;
            s.floats = now.outside(s, 0);
            return (int) s.floats + 100000;
        }

        int pass(int hours) {
            if (!in(hours, 1, 120)) {
                return -2;
            }
            if (now.hour + hours > 120) {
                return -3;
            }
            act();
            for (int i = 0; i < hours; i++) {
                now.hourPasses();
            }
            return now.hour;
        }

        /** A text is the beginning of one without a fault where one of these matches. */
        boolean canGoOn(String t) {
            return t.matches("((p[1-9][0-9]?|[xocl][0-2]);)*(p|p[1-9][0-9]?|[xocl]|[xocl][0-2])?");
        }

        int follow() {
            if (!text.matches("(p[1-9][0-9]?|[xocl][0-2])(;(p[1-9][0-9]?|[xocl][0-2]))*")) {
                int fault = 0;
                while (fault < text.length() && canGoOn(text.substring(0, fault + 1))) {
                    fault++;
                }
                return -100 - fault;
            }
            World before = now.copy();
            String[] orders = text.split(";");
            for (String order : orders) {
                int number = Integer.parseInt(order.substring(1));
                switch (order.charAt(0)) {
                    case 'p':
                        for (int i = 0; i < number; i++) {
                            now.hourPasses();
                        }
                        break;
                    case 'x':
                        now.st[number].on = false;
                        break;
                    case 'o':
                        now.st[number].on = true;
                        break;
                    case 'c':
                        now.st[number].silt = 0;
                        break;
                    default:
                        now.st[number].notes.put(now.hour, now.st[number].sunk);
                        break;
                }
            }
            World after = now;
            now = before;
            if (after.hour > 120) {
                return -3;
            }
            act();
            now = after;
            return orders.length;
        }

        int count(int what) {
            int on = 0;
            int readings = 0;
            int mends = 0;
            for (St s : now.st) {
                on += s.on ? 1 : 0;
                readings += s.readings.size();
                mends += s.mends.size();
            }
            int[] all = {now.hour, on, readings, 3 * now.hour - readings, mends, history.size(), text.length()};
            return in(what, 0, 6) ? all[what] : -2;
        }

        int askStation(int kind, St s, int[] a) {
            switch (kind) {
                case 2: return setRate(s, a[1] == 1, a[2]);
                case 3:
                    if (s.on == (a[1] == 1)) {
                        return -5;
                    }
                    act();
                    s.on = !s.on;
                    return count(1);
                case 4:
                    if (s.silt == 0) {
                        return -5;
                    }
                    act();
                    int silt = s.silt;
                    s.silt = 0;
                    return silt;
                case 5:
                    if (Integer.valueOf(s.sunk).equals(s.notes.get(now.hour))) {
                        return -5;
                    }
                    act();
                    s.notes.put(now.hour, s.sunk);
                    return s.sunk;
                case 9:
                    if (s.mends.isEmpty()) {
                        return -5;
                    }
                    act();
                    int size = s.mends.size();
                    s.mends.clear();
                    return size;
                case 16: return in(a[1], 0, 200) ? (int) now.outside(s, a[1]) + 100000 : -2;
                case 17: return station(s, a[1]);
                case 18: return hour(s, a[1], a[2]);
                case 19: return gap(s, a[1], a[2]);
                case 22: return high(s, a[1]);
                default: return withNeighbour(kind, s, a);
            }
        }

        int setRate(St s, boolean sinking, int hours) {
            if (!in(hours, 0, 20)) {
                return -2;
            }
            int former = sinking ? s.sinking : s.silting;
            if (former == hours) {
                return -5;
            }
            act();
            if (sinking) {
                s.sinking = hours;
            } else {
                s.silting = hours;
            }
            return former;
        }

        int station(St s, int what) {
            long[] all = {s.delay, s.scale, s.offset + 100000, s.floats + 100000, s.silt, s.silting, s.sinking, s.sunk,
                s.on ? 1 : 0, s.readings.size(), s.gaps(now.hour).size(), s.mends.size(), s.notes.size()};
            return in(what, 0, 12) ? (int) all[what] : -2;
        }

        int hour(St s, int h, int what) {
            if (h < 0 || !in(what, 0, 4)) {
                return -2;
            }
            if (h >= now.hour) {
                return -5;
            }
            boolean read = s.readings.containsKey(h);
            boolean isMended = s.mends.containsKey(h);
            long[] all = {read ? s.readings.get(h) + 100000 : -5, read ? s.corrected(h) + 100000 : -5,
                isMended ? s.mends.get(h) + 100000 : -5, s.correction(h), read ? 0 : isMended ? 2 : 1};
            return (int) all[what];
        }

        boolean inner(int[] gap) {
            return gap[0] > 0 && gap[1] < now.hour - 1;
        }

        int gap(St s, int number, int what) {
            List<int[]> gaps = s.gaps(now.hour);
            if (!in(number, 0, gaps.size() - 1)) {
                return -1;
            }
            int[] g = gaps.get(number);
            int[] all = {g[0], g[1], inner(g) ? 1 : 0, s.mends.subMap(g[0], true, g[1], true).size()};
            return in(what, 0, 3) ? all[what] : -2;
        }

        int high(St s, int rank) {
            if (rank < 0) {
                return -2;
            }
            List<Integer> all = new ArrayList<>();
            for (int h = 0; h < now.hour; h++) {
                Long v = s.value(h);
                Long ahead = s.value(h - 1);
                Long behind = s.value(h + 1);
                if (v != null && ahead != null && behind != null && v > ahead && v > behind) {
                    all.add(h);
                }
            }
            return rank < all.size() ? all.get(rank) : -5;
        }

        int withNeighbour(int kind, St s, int[] a) {
            List<int[]> gaps = s.gaps(now.hour);
            if (!in(a[1], 0, gaps.size() - 1) || !in(a[2], 0, 2)) {
                return -1;
            }
            if (kind != 21 && !in(a[3], -12, 12) || a[0] == a[2]) {
                return -2;
            }
            int[] g = gaps.get(a[1]);
            if (!inner(g)) {
                return -4;
            }
            int i = g[0] - 1;
            int k = g[1] + 1;
            St u = now.st[a[2]];
            if (kind == 21) {
                return bestPhase(s, u, i, k);
            }
            int f = a[3];
            if (!u.reads(i + f, k + f)) {
                return kind == 8 ? -4 : -5;
            }
            return kind == 20 ? (int) misfit(s, u, i, k, f) : mend(s, u, i, k, f);
        }

        int mend(St s, St u, int i, int k, int f) {
            act();
            long e = s.corrected(i) - u.corrected(i + f);
            long g = s.corrected(k) - u.corrected(k + f);
            for (int h = i + 1; h < k; h++) {
                s.mends.put(h, u.corrected(h + f) + e + down((g - e) * (h - i), k - i));
            }
            return k - i - 1;
        }

        long misfit(St s, St u, int i, int k, int f) {
            long sum = 0;
            for (int h = 0; h < now.hour; h++) {
                boolean meant = i - 11 <= h && h <= i || k + 1 <= h && h <= k + 12;
                if (meant && s.reads(h - 1, h) && u.reads(h + f - 1, h + f)) {
                    sum += Math.abs(s.corrected(h) - s.corrected(h - 1)
                            - (u.corrected(h + f) - u.corrected(h + f - 1)));
                }
            }
            return sum;
        }

        int bestPhase(St s, St u, int i, int k) {
            List<long[]> all = new ArrayList<>();
            for (int f = -12; f <= 12; f++) {
                if (u.reads(i + f, k + f)) {
                    all.add(new long[] {misfit(s, u, i, k, f), Math.abs(f), f});
                }
            }
            all.sort(java.util.Arrays::compare);
            return all.isEmpty() ? -5 : (int) all.get(0)[2] + 100;
        }
    }
}

import java.util.Arrays;

/**
 * Floats in pipes by the sea. What each call promises stands in ../shared/DOC.md; the code keeps to
 * ../shared/LANGUAGE.md.
 */
public final class SiltedFloats {
    public static final int UNKNOWN = -1;
    public static final int BAD_VALUE = -2;
    public static final int FULL = -3;
    public static final int NOT_POSSIBLE = -4;
    public static final int NONE = -5;

    private static final int WAVES = 3;
    private static final int STATIONS = 3;
    private static final int MOST_HOURS = 120;
    private static final int LEAST_SEA_HOUR = -24;
    private static final int LAST_TOLD_HOUR = 200;
    private static final int MOST_AMPLITUDE = 3000;
    private static final int LEAST_PERIOD = 2;
    private static final int MOST_PERIOD = 48;
    private static final int MOST_WAVE_PHASE = 47;
    private static final int MOST_DELAY = 12;
    private static final int LEAST_SCALE = 10;
    private static final int MOST_SCALE = 200;
    private static final int MOST_OFFSET = 2000;
    private static final int MOST_RATE = 20;
    private static final int MOST_SILT = 90;
    private static final int MOST_PHASE = 12;
    private static final int MISFIT_HOURS = 12;
    private static final int MOST_STATES = 4;
    private static final int MOST_CHARACTERS = 60;

    /** What is added to a level that is told, so that it is never taken for an error. */
    private static final int LEVEL_TOLD = 100000;
    private static final int PHASE_TOLD = 100;
    private static final int FAULT_TOLD = -100;

    private static final int FITS = 0;

    private final State now;
    private final State kept;
    private boolean isKept;
    private final State[] past;
    private int pastCount;
    private final OrderText text;

    public SiltedFloats() {
        now = new State();
        kept = new State();
        past = new State[MOST_STATES];
        for (int i = 0; i < MOST_STATES; i++) {
            past[i] = new State();
        }
        text = new OrderText();
    }

    // ---- the sea, stations

    public int setWave(int wave, int amplitude, int period, int phase) {
        if (wave < 0 || wave >= WAVES) {
            return UNKNOWN;
        }
        if (!isWithin(amplitude, 0, MOST_AMPLITUDE) || !isWithin(period, LEAST_PERIOD, MOST_PERIOD)
                || !isWithin(phase, 0, MOST_WAVE_PHASE)) {
            return BAD_VALUE;
        }
        if (now.hour != 0) {
            return NOT_POSSIBLE;
        }
        if (now.waves[wave].isSo(amplitude, period, phase)) {
            return NONE;
        }
        remember();
        now.waves[wave].become(amplitude, period, phase);
        now.settleFloats();
        return now.seaAt(0) + LEVEL_TOLD;
    }

    public int setStation(int station, int delay, int scale, int offset) {
        if (!isStation(station)) {
            return UNKNOWN;
        }
        if (!isWithin(delay, 0, MOST_DELAY) || !isWithin(scale, LEAST_SCALE, MOST_SCALE)
                || !isWithin(offset, -MOST_OFFSET, MOST_OFFSET)) {
            return BAD_VALUE;
        }
        if (now.hour != 0) {
            return NOT_POSSIBLE;
        }
        Gauge gauge = now.gauges[station];
        if (gauge.isSo(delay, scale, offset)) {
            return NONE;
        }
        remember();
        gauge.become(delay, scale, offset);
        now.settleFloat(gauge);
        return gauge.floatLevel + LEVEL_TOLD;
    }

    public int setRate(int station, boolean sinking, int hours) {
        if (!isStation(station)) {
            return UNKNOWN;
        }
        if (!isWithin(hours, 0, MOST_RATE)) {
            return BAD_VALUE;
        }
        Gauge gauge = now.gauges[station];
        int previous = sinking ? gauge.sinking : gauge.silting;
        if (previous == hours) {
            return NONE;
        }
        remember();
        if (sinking) {
            gauge.sinking = hours;
        } else {
            gauge.silting = hours;
        }
        return previous;
    }

    public int turn(int station, boolean on) {
        if (!isStation(station)) {
            return UNKNOWN;
        }
        Gauge gauge = now.gauges[station];
        if (gauge.on == on) {
            return NONE;
        }
        remember();
        gauge.on = on;
        return now.stationsOn();
    }

    public int clean(int station) {
        if (!isStation(station)) {
            return UNKNOWN;
        }
        Gauge gauge = now.gauges[station];
        int silt = gauge.silt;
        if (silt == 0) {
            return NONE;
        }
        remember();
        gauge.silt = 0;
        return silt;
    }

    public int level(int station) {
        if (!isStation(station)) {
            return UNKNOWN;
        }
        Gauge gauge = now.gauges[station];
        if (gauge.isNotedAt(now.hour)) {
            return NONE;
        }
        remember();
        gauge.noteAt(now.hour);
        return gauge.sunk;
    }

    public int pass(int hours) {
        if (!isWithin(hours, 1, MOST_HOURS)) {
            return BAD_VALUE;
        }
        if (now.hour + hours > MOST_HOURS) {
            return FULL;
        }
        remember();
        now.passHours(hours);
        return now.hour;
    }

    public int follow() {
        int fault = text.faultAt();
        if (fault != OrderText.NO_FAULT) {
            return FAULT_TOLD - fault;
        }
        if (now.hour + text.hoursInAll() > MOST_HOURS) {
            return FULL;
        }
        remember();
        int orders = 0;
        for (int i = 0; i < text.length; i++) {
            if (text.startsOrder(i)) {
                now.obey(text.characterAt(i), text.numberFrom(i + 1));
                orders++;
            }
        }
        return orders;
    }

    // ---- mending

    public int mend(int station, int gap, int neighbour, int phase) {
        int answer = checkMending(station, gap, neighbour, phase);
        if (answer != FITS) {
            return answer;
        }
        Gauge gauge = now.gauges[station];
        Gauge other = now.gauges[neighbour];
        int ahead = gauge.firstHourOfGap(gap) - 1;
        int behind = gauge.hourBehindGapFrom(ahead + 1);
        if (!other.hasReadings(ahead + phase, behind + phase)) {
            return NOT_POSSIBLE;
        }
        remember();
        gauge.mendBetween(ahead, behind, other, phase);
        return behind - ahead - 1;
    }

    public int forget(int station) {
        if (!isStation(station)) {
            return UNKNOWN;
        }
        Gauge gauge = now.gauges[station];
        int mended = gauge.hoursOfKind(Gauge.MENDED);
        if (mended == 0) {
            return NONE;
        }
        remember();
        gauge.forgetMended();
        return mended;
    }

    // ---- texts

    public int type(char character) {
        if (text.length >= MOST_CHARACTERS) {
            return FULL;
        }
        text.add(character);
        return text.length;
    }

    public int clearText() {
        int length = text.length;
        text.length = 0;
        return length;
    }

    // ---- history

    public int undo() {
        if (pastCount <= 0 || pastCount > past.length) {
            return NONE;
        }
        pastCount--;
        now.copyFrom(past[pastCount]);
        return pastCount;
    }

    public int keep() {
        kept.copyFrom(now);
        isKept = true;
        return now.hour;
    }

    public int restore() {
        if (!isKept) {
            return NONE;
        }
        remember();
        now.copyFrom(kept);
        return now.hour;
    }

    // ---- what is told

    public int sea(int hour) {
        if (!isWithin(hour, LEAST_SEA_HOUR, LAST_TOLD_HOUR)) {
            return BAD_VALUE;
        }
        return now.seaAt(hour) + LEVEL_TOLD;
    }

    public int outside(int station, int hour) {
        if (!isStation(station)) {
            return UNKNOWN;
        }
        if (!isWithin(hour, 0, LAST_TOLD_HOUR)) {
            return BAD_VALUE;
        }
        return now.waterAt(now.gauges[station], hour) + LEVEL_TOLD;
    }

    public int station(int station, int what) {
        if (!isStation(station)) {
            return UNKNOWN;
        }
        Gauge gauge = now.gauges[station];
        switch (what) {
            case 0: return gauge.delay;
            case 1: return gauge.scale;
            case 2: return gauge.offset + LEVEL_TOLD;
            case 3: return gauge.floatLevel + LEVEL_TOLD;
            case 4: return gauge.silt;
            case 5: return gauge.silting;
            case 6: return gauge.sinking;
            case 7: return gauge.sunk;
            case 8: return gauge.on ? 1 : 0;
            case 9: return gauge.hoursOfKind(Gauge.READ);
            case 10: return gauge.gaps();
            case 11: return gauge.hoursOfKind(Gauge.MENDED);
            case 12: return gauge.notes;
            default: return BAD_VALUE;
        }
    }

    public int hour(int station, int hour, int what) {
        if (!isStation(station)) {
            return UNKNOWN;
        }
        if (hour < 0 || !isWithin(what, 0, 4)) {
            return BAD_VALUE;
        }
        if (hour >= now.hour) {
            return NONE;
        }
        Gauge gauge = now.gauges[station];
        int kind = gauge.kindAt(hour);
        switch (what) {
            case 0: return kind == Gauge.READ ? gauge.readingAt(hour) + LEVEL_TOLD : NONE;
            case 1: return kind == Gauge.READ ? gauge.correctedAt(hour) + LEVEL_TOLD : NONE;
            case 2: return kind == Gauge.MENDED ? gauge.valueAt(hour) + LEVEL_TOLD : NONE;
            case 3: return gauge.correctionAt(hour);
            default: return kind;
        }
    }

    public int gap(int station, int gap, int what) {
        if (!isStation(station) || !now.gauges[station].hasGap(gap)) {
            return UNKNOWN;
        }
        Gauge gauge = now.gauges[station];
        int first = gauge.firstHourOfGap(gap);
        int last = gauge.hourBehindGapFrom(first) - 1;
        switch (what) {
            case 0: return first;
            case 1: return last;
            case 2: return gauge.isInner(gap) ? 1 : 0;
            case 3: return gauge.mendedWithin(first, last);
            default: return BAD_VALUE;
        }
    }

    public int misfit(int station, int gap, int neighbour, int phase) {
        int answer = checkMending(station, gap, neighbour, phase);
        if (answer != FITS) {
            return answer;
        }
        Gauge gauge = now.gauges[station];
        Gauge other = now.gauges[neighbour];
        int ahead = gauge.firstHourOfGap(gap) - 1;
        int behind = gauge.hourBehindGapFrom(ahead + 1);
        if (!other.hasReadings(ahead + phase, behind + phase)) {
            return NONE;
        }
        return gauge.misfitAround(ahead, behind, other, phase);
    }

    public int bestPhase(int station, int gap, int neighbour) {
        int answer = checkMending(station, gap, neighbour, 0);
        if (answer != FITS) {
            return answer;
        }
        Gauge gauge = now.gauges[station];
        Gauge other = now.gauges[neighbour];
        int ahead = gauge.firstHourOfGap(gap) - 1;
        int behind = gauge.hourBehindGapFrom(ahead + 1);
        int best = NONE;
        int least = 0;
        for (int step = 0; step <= 2 * MOST_PHASE; step++) {
            int phase = phaseOfStep(step);
            if (other.hasReadings(ahead + phase, behind + phase)) {
                int misfit = gauge.misfitAround(ahead, behind, other, phase);
                if (best == NONE || misfit < least) {
                    least = misfit;
                    best = phase + PHASE_TOLD;
                }
            }
        }
        return best;
    }

    public int high(int station, int rank) {
        if (!isStation(station)) {
            return UNKNOWN;
        }
        if (rank < 0) {
            return BAD_VALUE;
        }
        Gauge gauge = now.gauges[station];
        int found = 0;
        for (int h = 1; h < MOST_HOURS - 1; h++) {
            if (gauge.isHighAt(h)) {
                if (found == rank) {
                    return h;
                }
                found++;
            }
        }
        return NONE;
    }

    public int count(int what) {
        switch (what) {
            case 0: return now.hour;
            case 1: return now.stationsOn();
            case 2: return now.hoursOfKind(Gauge.READ);
            case 3: return now.hoursOfKind(Gauge.MISSING) + now.hoursOfKind(Gauge.MENDED);
            case 4: return now.hoursOfKind(Gauge.MENDED);
            case 5: return pastCount;
            case 6: return text.length;
            default: return BAD_VALUE;
        }
    }

    // ---- helpers

    private void remember() {
        if (pastCount >= past.length) {
            dropOldest();
        }
        if (pastCount >= 0 && pastCount < past.length) {
            past[pastCount].copyFrom(now);
            pastCount++;
        }
    }

    /** The oldest object goes to the free end and is used again, so that no call makes objects. */
    private void dropOldest() {
        State oldest = past[0];
        for (int i = 1; i < past.length; i++) {
            past[i - 1] = past[i];
        }
        past[past.length - 1] = oldest;
        pastCount = past.length - 1;
    }

    /** FITS, or the error that mend, misfit and bestPhase have in common, in their common order. */
    private int checkMending(int station, int gap, int neighbour, int phase) {
        if (!isStation(station) || !isStation(neighbour) || !now.gauges[station].hasGap(gap)) {
            return UNKNOWN;
        }
        if (!isWithin(phase, -MOST_PHASE, MOST_PHASE) || neighbour == station) {
            return BAD_VALUE;
        }
        return now.gauges[station].isInner(gap) ? FITS : NOT_POSSIBLE;
    }

    /** 0, -1, 1, -2, 2, ...: of equal misfits the first one in this order is the best one. */
    private static int phaseOfStep(int step) {
        return step % 2 == 0 ? step / 2 : -(step + 1) / 2;
    }

    private static boolean isStation(int station) {
        return station >= 0 && station < STATIONS;
    }

    private static boolean isWithin(int number, int least, int most) {
        return number >= least && number <= most;
    }

    /** What is added after some of all hours, on the way to the whole of it. */
    private static int shareOf(int whole, int hours, int allHours) {
        return allHours <= 0 ? 0 : Math.floorDiv(whole * hours, allHours);
    }

    /** One wave of the sea. */
    private static final class Wave {
        int amplitude;
        int period;
        int phase;

        Wave(int amplitude, int period, int phase) {
            become(amplitude, period, phase);
        }

        void become(int newAmplitude, int newPeriod, int newPhase) {
            amplitude = newAmplitude;
            period = newPeriod;
            phase = newPhase;
        }

        boolean isSo(int otherAmplitude, int otherPeriod, int otherPhase) {
            return amplitude == otherAmplitude && period == otherPeriod && phase == otherPhase;
        }

        int heightAt(int hour) {
            if (period <= 0) {
                return 0;
            }
            int place = Math.floorMod(hour + phase, period);
            int way = Math.floorDiv(4 * amplitude * place, period);
            return 2 * place <= period ? way - amplitude : 3 * amplitude - way;
        }
    }

    /** A station: its numbers, its float, and a row of its hours. */
    private static final class Gauge {
        /** The kinds of an hour; the first three are told as they are. */
        static final int READ = 0;
        static final int MISSING = 1;
        static final int MENDED = 2;
        static final int NOT_PASSED = 3;

        private static final int NO_HOUR = -1;

        int delay;
        int scale;
        int offset;
        int floatLevel;
        int silt;
        int silting;
        int sinking;
        int sunk;
        boolean on;
        int notes;
        int lastNote;
        int lastNoteHour;
        final int[] kinds;
        /** Readings, not corrected, and mended values, as the kind says. */
        final int[] values;
        /** Kept as a row: a note changes only those of the hours since the last note. */
        final int[] corrections;

        Gauge(int delay) {
            become(delay, 100, 0);
            on = true;
            notes = 1;
            kinds = new int[MOST_HOURS];
            Arrays.fill(kinds, NOT_PASSED);
            values = new int[MOST_HOURS];
            corrections = new int[MOST_HOURS];
        }

        void become(int newDelay, int newScale, int newOffset) {
            delay = newDelay;
            scale = newScale;
            offset = newOffset;
        }

        boolean isSo(int otherDelay, int otherScale, int otherOffset) {
            return delay == otherDelay && scale == otherScale && offset == otherOffset;
        }

        void copyFrom(Gauge other) {
            become(other.delay, other.scale, other.offset);
            floatLevel = other.floatLevel;
            silt = other.silt;
            silting = other.silting;
            sinking = other.sinking;
            sunk = other.sunk;
            on = other.on;
            notes = other.notes;
            lastNote = other.lastNote;
            lastNoteHour = other.lastNoteHour;
            System.arraycopy(other.kinds, 0, kinds, 0, MOST_HOURS);
            System.arraycopy(other.values, 0, values, 0, MOST_HOURS);
            System.arraycopy(other.corrections, 0, corrections, 0, MOST_HOURS);
        }

        void passHour(int hour, int water) {
            floatLevel += Math.floorDiv((water - floatLevel) * (100 - silt), 100);
            if (hour >= 0 && hour < MOST_HOURS) {
                kinds[hour] = on ? READ : MISSING;
                values[hour] = on ? floatLevel + sunk : 0;
                corrections[hour] = lastNote;
            }
            if (isDue(silting, hour) && silt < MOST_SILT) {
                silt++;
            }
            if (isDue(sinking, hour)) {
                sunk++;
            }
        }

        private static boolean isDue(int every, int hour) {
            return every > 0 && (hour + 1) % every == 0;
        }

        /** Within an hour nothing sinks: a note of this hour can't differ from what would be noted. */
        boolean isNotedAt(int hour) {
            return lastNoteHour == hour;
        }

        void noteAt(int hour) {
            if (isNotedAt(hour)) {
                return;
            }
            for (int h = Math.max(lastNoteHour, 0); h < hour && h < MOST_HOURS; h++) {
                corrections[h] = lastNote
                        + shareOf(sunk - lastNote, h - lastNoteHour, hour - lastNoteHour);
            }
            lastNote = sunk;
            lastNoteHour = hour;
            notes++;
        }

        int kindAt(int hour) {
            return hour >= 0 && hour < kinds.length ? kinds[hour] : NOT_PASSED;
        }

        int correctionAt(int hour) {
            return hour >= 0 && hour < corrections.length ? corrections[hour] : 0;
        }

        int readingAt(int hour) {
            return hour >= 0 && hour < values.length ? values[hour] : 0;
        }

        int correctedAt(int hour) {
            return readingAt(hour) - correctionAt(hour);
        }

        /** The corrected reading, or what is mended, which holds its correction already. */
        int valueAt(int hour) {
            return kindAt(hour) == MENDED ? readingAt(hour) : correctedAt(hour);
        }

        boolean hasValue(int hour) {
            int kind = kindAt(hour);
            return kind == READ || kind == MENDED;
        }

        boolean hasReading(int hour) {
            return kindAt(hour) == READ;
        }

        boolean hasReadings(int from, int to) {
            for (int h = from; h <= to; h++) {
                if (!hasReading(h)) {
                    return false;
                }
            }
            return true;
        }

        boolean isHighAt(int hour) {
            return hasValue(hour - 1) && hasValue(hour) && hasValue(hour + 1)
                    && valueAt(hour) > valueAt(hour - 1) && valueAt(hour) > valueAt(hour + 1);
        }

        int hoursOfKind(int kind) {
            int hours = 0;
            for (int h = 0; h < MOST_HOURS; h++) {
                if (kinds[h] == kind) {
                    hours++;
                }
            }
            return hours;
        }

        boolean isInGap(int hour) {
            int kind = kindAt(hour);
            return kind == MISSING || kind == MENDED;
        }

        boolean startsGap(int hour) {
            return isInGap(hour) && !isInGap(hour - 1);
        }

        int gaps() {
            int found = 0;
            for (int h = 0; h < MOST_HOURS; h++) {
                if (startsGap(h)) {
                    found++;
                }
            }
            return found;
        }

        int firstHourOfGap(int gap) {
            int found = 0;
            for (int h = 0; h < MOST_HOURS; h++) {
                if (startsGap(h)) {
                    if (found == gap) {
                        return h;
                    }
                    found++;
                }
            }
            return NO_HOUR;
        }

        boolean hasGap(int gap) {
            return firstHourOfGap(gap) != NO_HOUR;
        }

        int hourBehindGapFrom(int first) {
            int hour = first;
            while (hour < MOST_HOURS && isInGap(hour)) {
                hour++;
            }
            return hour;
        }

        boolean isInner(int gap) {
            int first = firstHourOfGap(gap);
            return hasReading(first - 1) && hasReading(hourBehindGapFrom(first));
        }

        int mendedWithin(int first, int last) {
            int mended = 0;
            for (int h = first; h <= last; h++) {
                if (kindAt(h) == MENDED) {
                    mended++;
                }
            }
            return mended;
        }

        void mendBetween(int ahead, int behind, Gauge other, int phase) {
            int startShift = correctedAt(ahead) - other.correctedAt(ahead + phase);
            int endShift = correctedAt(behind) - other.correctedAt(behind + phase);
            for (int h = Math.max(ahead + 1, 0); h < behind && h < MOST_HOURS; h++) {
                kinds[h] = MENDED;
                values[h] = other.correctedAt(h + phase) + startShift
                        + shareOf(endShift - startShift, h - ahead, behind - ahead);
            }
        }

        void forgetMended() {
            for (int h = 0; h < MOST_HOURS; h++) {
                if (kinds[h] == MENDED) {
                    kinds[h] = MISSING;
                }
            }
        }

        int misfitAround(int ahead, int behind, Gauge other, int phase) {
            return misfitWithin(ahead - MISFIT_HOURS + 1, ahead, other, phase)
                    + misfitWithin(behind + 1, behind + MISFIT_HOURS, other, phase);
        }

        private int misfitWithin(int from, int to, Gauge other, int phase) {
            int sum = 0;
            for (int h = from; h <= to; h++) {
                if (hasReadings(h - 1, h) && other.hasReadings(h + phase - 1, h + phase)) {
                    sum += Math.abs(riseAt(h) - other.riseAt(h + phase));
                }
            }
            return sum;
        }

        private int riseAt(int hour) {
            return correctedAt(hour) - correctedAt(hour - 1);
        }
    }

    /** All that undo and restore bring back. */
    private static final class State {
        int hour;
        final Wave[] waves;
        final Gauge[] gauges;

        State() {
            waves = new Wave[WAVES];
            waves[0] = new Wave(1000, 12, 0);
            for (int i = 1; i < WAVES; i++) {
                waves[i] = new Wave(0, 24, 0);
            }
            gauges = new Gauge[STATIONS];
            for (int i = 0; i < STATIONS; i++) {
                gauges[i] = new Gauge(i);
                settleFloat(gauges[i]);
            }
        }

        void copyFrom(State other) {
            hour = other.hour;
            for (int i = 0; i < WAVES; i++) {
                waves[i].become(other.waves[i].amplitude, other.waves[i].period, other.waves[i].phase);
            }
            for (int i = 0; i < STATIONS; i++) {
                gauges[i].copyFrom(other.gauges[i]);
            }
        }

        int seaAt(int when) {
            int sum = 0;
            for (int i = 0; i < WAVES; i++) {
                sum += waves[i].heightAt(when);
            }
            return sum;
        }

        int waterAt(Gauge gauge, int when) {
            return Math.floorDiv(gauge.scale * seaAt(when - gauge.delay), 100) + gauge.offset;
        }

        /** What is set here is set at the hour 0 alone, so this is the water outside then. */
        void settleFloat(Gauge gauge) {
            gauge.floatLevel = waterAt(gauge, 0);
        }

        void settleFloats() {
            for (int i = 0; i < STATIONS; i++) {
                settleFloat(gauges[i]);
            }
        }

        void passHours(int hours) {
            for (int n = 0; n < hours && hour < MOST_HOURS; n++) {
                for (int i = 0; i < STATIONS; i++) {
                    gauges[i].passHour(hour, waterAt(gauges[i], hour));
                }
                hour++;
            }
        }

        void obey(char letter, int number) {
            if (letter == 'p') {
                passHours(number);
            } else if (isStation(number)) {
                obeyAt(gauges[number], letter);
            }
        }

        private void obeyAt(Gauge gauge, char letter) {
            switch (letter) {
                case 'x':
                    gauge.on = false;
                    break;
                case 'o':
                    gauge.on = true;
                    break;
                case 'c':
                    gauge.silt = 0;
                    break;
                case 'l':
                    gauge.noteAt(hour);
                    break;
                default:
                    break;
            }
        }

        int stationsOn() {
            int found = 0;
            for (int i = 0; i < STATIONS; i++) {
                if (gauges[i].on) {
                    found++;
                }
            }
            return found;
        }

        int hoursOfKind(int kind) {
            int sum = 0;
            for (int i = 0; i < STATIONS; i++) {
                sum += gauges[i].hoursOfKind(kind);
            }
            return sum;
        }
    }

    /** The text of orders; it is no part of the state. */
    private static final class OrderText {
        static final int NO_FAULT = -1;

        /** What the next character may be. */
        private static final int LETTER = 0;
        private static final int HOURS = 1;
        private static final int DIGIT_OR_NEXT = 2;
        private static final int STATION = 3;
        private static final int NEXT = 4;
        private static final int NOTHING = 5;

        int length;
        private final char[] characters;

        OrderText() {
            characters = new char[MOST_CHARACTERS];
        }

        void add(char character) {
            if (length >= 0 && length < characters.length) {
                characters[length] = character;
                length++;
            }
        }

        char characterAt(int index) {
            return index >= 0 && index < length && index < characters.length ? characters[index] : 0;
        }

        int faultAt() {
            int due = LETTER;
            for (int i = 0; i < length; i++) {
                due = dueBehind(due, characterAt(i));
                if (due == NOTHING) {
                    return i;
                }
            }
            return due == NEXT || due == DIGIT_OR_NEXT ? NO_FAULT : length;
        }

        private static int dueBehind(int due, char character) {
            switch (due) {
                case LETTER:
                    return dueBehindLetter(character);
                case HOURS:
                    return isWithin(character, '1', '9') ? DIGIT_OR_NEXT : NOTHING;
                case DIGIT_OR_NEXT:
                    return isDigit(character) ? NEXT : dueBehindOrder(character);
                case STATION:
                    return isWithin(character, '0', '2') ? NEXT : NOTHING;
                case NEXT:
                    return dueBehindOrder(character);
                default:
                    return NOTHING;
            }
        }

        private static int dueBehindLetter(char character) {
            if (character == 'p') {
                return HOURS;
            }
            return isStationLetter(character) ? STATION : NOTHING;
        }

        private static int dueBehindOrder(char character) {
            return character == ';' ? LETTER : NOTHING;
        }

        private static boolean isStationLetter(char character) {
            return character == 'x' || character == 'o' || character == 'c' || character == 'l';
        }

        private static boolean isDigit(char character) {
            return character >= '0' && character <= '9';
        }

        /** Of a text without a fault: each order has one letter, its first character. */
        boolean startsOrder(int index) {
            char character = characterAt(index);
            return character == 'p' || isStationLetter(character);
        }

        int numberFrom(int index) {
            int number = 0;
            for (int i = index; i < length && isDigit(characterAt(i)); i++) {
                number = 10 * number + characterAt(i) - '0';
            }
            return number;
        }

        int hoursInAll() {
            int hours = 0;
            for (int i = 0; i < length; i++) {
                if (characterAt(i) == 'p') {
                    hours += numberFrom(i + 1);
                }
            }
            return hours;
        }
    }
}

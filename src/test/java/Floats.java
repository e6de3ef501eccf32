import java.util.ArrayList;
import java.util.List;
import java.util.function.ToIntFunction;

/**
 * An object of the class, as tests ask it. The document promises nothing behind the 512th call of an
 * object, so this counts the calls, and tells all of its state by doing the same on new objects.
 */
final class Floats {
    static final int MOST_CALLS = 512;
    private static final int HOURS_AT_ONCE = 40;

    private final SiltedFloats floats = new SiltedFloats();
    private final List<ToIntFunction<SiltedFloats>> acts = new ArrayList<>();
    private int calls = 0;

    /** The sea is at 0 at all hours. */
    static Floats flat() {
        Floats x = new Floats();
        x.setWave(0, 0, 2, 0);
        return x;
    }

    /** A flat sea, and hours as the rows say. */
    static Floats flatWith(String... rows) {
        Floats x = flat();
        x.passRows(rows);
        return x;
    }

    /** A row of hours, with '-' at those at which a station is off. */
    static String row(int hours, int... off) {
        StringBuilder row = new StringBuilder("+".repeat(hours));
        for (int h : off) {
            row.setCharAt(h, '-');
        }
        return row.toString();
    }

    /** A call that may change something. */
    int act(ToIntFunction<SiltedFloats> call) {
        acts.add(call);
        return ask(call);
    }

    /** A call that only tells something. */
    int ask(ToIntFunction<SiltedFloats> call) {
        calls++;
        if (calls > MOST_CALLS) {
            Checks.isTrue("a test asks an object at most " + MOST_CALLS + " times", false);
        }
        return call.applyAsInt(floats);
    }

    int setWave(int wave, int amplitude, int period, int phase) {
        return act(f -> f.setWave(wave, amplitude, period, phase));
    }

    int setStation(int station, int delay, int scale, int offset) {
        return act(f -> f.setStation(station, delay, scale, offset));
    }

    int setRate(int station, boolean sinking, int hours) {
        return act(f -> f.setRate(station, sinking, hours));
    }

    int turn(int station, boolean on) {
        return act(f -> f.turn(station, on));
    }

    int clean(int station) {
        return act(f -> f.clean(station));
    }

    int level(int station) {
        return act(f -> f.level(station));
    }

    int pass(int hours) {
        return act(f -> f.pass(hours));
    }

    int follow() {
        return act(f -> f.follow());
    }

    int mend(int station, int gap, int neighbour, int phase) {
        return act(f -> f.mend(station, gap, neighbour, phase));
    }

    int forget(int station) {
        return act(f -> f.forget(station));
    }

    int type(char character) {
        return act(f -> f.type(character));
    }

    int clearText() {
        return act(f -> f.clearText());
    }

    int undo() {
        return act(f -> f.undo());
    }

    int keep() {
        return act(f -> f.keep());
    }

    int restore() {
        return act(f -> f.restore());
    }

    int sea(int hour) {
        return ask(f -> f.sea(hour));
    }

    int outside(int station, int hour) {
        return ask(f -> f.outside(station, hour));
    }

    int station(int station, int what) {
        return ask(f -> f.station(station, what));
    }

    int hour(int station, int hour, int what) {
        return ask(f -> f.hour(station, hour, what));
    }

    int gap(int station, int gap, int what) {
        return ask(f -> f.gap(station, gap, what));
    }

    int misfit(int station, int gap, int neighbour, int phase) {
        return ask(f -> f.misfit(station, gap, neighbour, phase));
    }

    int bestPhase(int station, int gap, int neighbour) {
        return ask(f -> f.bestPhase(station, gap, neighbour));
    }

    int high(int station, int rank) {
        return ask(f -> f.high(station, rank));
    }

    int count(int what) {
        return ask(f -> f.count(what));
    }

    /** Types a text in place of the one that was. */
    void write(String text) {
        clearText();
        for (int i = 0; i < text.length(); i++) {
            type(text.charAt(i));
        }
    }

    int followed(String text) {
        write(text);
        return follow();
    }

    /** Passes an hour for each sign of the rows of the stations from 0 on; a '-' says that one is off. */
    void passRows(String... rows) {
        int from = 0;
        while (from < rows[0].length()) {
            int to = from + 1;
            while (to < rows[0].length() && isSame(rows, from, to)) {
                to++;
            }
            for (int s = 0; s < rows.length; s++) {
                if (from == 0 || rows[s].charAt(from) != rows[s].charAt(from - 1)) {
                    turn(s, rows[s].charAt(from) != '-');
                }
            }
            pass(to - from);
            from = to;
        }
    }

    private static boolean isSame(String[] rows, int from, int to) {
        for (String row : rows) {
            if (row.charAt(from) != row.charAt(to)) {
                return false;
            }
        }
        return true;
    }

    // ---- all that is told

    /** A new object on which all has been done that was done on this one. */
    private Floats again() {
        Floats other = new Floats();
        for (ToIntFunction<SiltedFloats> act : acts) {
            other.act(act);
        }
        return other;
    }

    /** All but the history, the text and the snapshot. */
    String state() {
        StringBuilder all = new StringBuilder();
        Floats first = again();
        int hours = first.count(0);
        for (int what = 0; what <= 4; what++) {
            all.append(first.count(what)).append(' ');
        }
        for (int h = -24; h <= 48; h++) {
            all.append(first.sea(h)).append(' ');
        }
        for (int s = 0; s < 3; s++) {
            for (int what = 0; what <= 12; what++) {
                all.append(first.station(s, what)).append(' ');
            }
            for (int h = 0; h < hours; h += HOURS_AT_ONCE) {
                again().tellHours(s, h, Math.min(hours, h + HOURS_AT_ONCE), all);
            }
        }
        return all.toString();
    }

    private void tellHours(int station, int from, int to, StringBuilder all) {
        for (int h = from; h < to; h++) {
            for (int what = 0; what <= 4; what++) {
                all.append(hour(station, h, what)).append(' ');
            }
        }
    }

    /** The state, and what the history, the snapshot and the text would do. */
    String told() {
        StringBuilder all = new StringBuilder("now: ").append(state());
        Floats back = again();
        int states = back.count(5);
        int length = back.count(6);
        all.append("\nhistory: ").append(states).append("\ntext: ").append(length);
        for (int i = 0; i < states; i++) {
            all.append("\nundo: ").append(back.undo()).append(' ').append(back.state());
        }
        Floats restored = again();
        all.append("\nrestore: ").append(restored.restore()).append(' ').append(restored.state());
        Floats following = again();
        all.append("\nfollow: ").append(following.follow()).append(' ').append(following.state());
        return all.toString();
    }
}

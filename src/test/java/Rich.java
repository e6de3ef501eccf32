/** An object at which each act but the setting of numbers can do something. */
final class Rich {
    private Rich() {
    }

    /**
     * At the hour 17; gaps of the station 0 at 4 and 5 (mended) and at 10 to 12, of the station 1 at 9, of the
     * station 2 at 14 to 16 (no inner one); the history is full, with states behind the mending; there is a
     * snapshot of the state ahead of the mending, and a text.
     */
    static Floats floats() {
        Floats x = new Floats();
        x.setWave(1, 300, 17, 2);
        x.setRate(0, true, 2);
        x.setRate(0, false, 3);
        x.setRate(1, true, 5);
        x.passRows("++++--++++---++++", "+++++++++-+++++++", "++++++++++++++---");
        x.level(1);
        x.keep();
        x.mend(0, 0, 1, -1);
        x.turn(1, false);
        x.setRate(0, false, 4);
        x.turn(1, true);
        x.setRate(0, false, 3);
        x.write("x1;p3");
        return x;
    }
}

/** All that a BathWater tells of itself, and of what was kept in it, by calls alone. It is not to be used behind that. */
final class Trace {
    private final BathWater x;
    private final StringBuilder told = new StringBuilder();

    private Trace(BathWater x) {
        this.x = x;
    }

    static String of(BathWater x) {
        Trace t = new Trace(x);
        t.put("faults", x.fault(0), x.fault(1));
        t.lookAround();
        t.lookAtDamp();
        t.undoAndRedo();
        t.openBoxes();
        t.readTape();
        return t.told.toString();
    }

    /** The same but for what fault() answers. */
    static String butForFaults(BathWater x) {
        String all = of(x);
        return all.substring(all.indexOf(';') + 1);
    }

    private void put(String what, long... numbers) {
        told.append(' ').append(what);
        for (long number : numbers) {
            told.append(' ').append(number);
        }
        told.append(';');
    }

    private void lookAround() {
        for (int what = 0; what <= 15; what++) {
            put("about", what, x.about(what));
        }
        lookAtScene();
        for (int i = 0; i < 6; i++) {
            put("lies", x.lies(i));
        }
    }

    private void lookAtScene() {
        for (int spot = 0; spot < x.about(1); spot++) {
            put("spot", x.spot(spot, 0), x.spot(spot, 1));
        }
        for (int who = 0; who < x.about(0); who++) {
            put("swimmer", x.swimmer(who, 0), x.swimmer(who, 1), x.swimmer(who, 2), x.swimmer(who, 3));
        }
        put("steps", x.about(5), x.about(6));
    }

    private void lookAtDamp() {
        int time = x.about(10);
        for (int k = time - 5; k <= time + 1; k++) {
            put("fits", x.fits(k), x.sure(0, k), x.sure(1, k));
        }
    }

    private void undoAndRedo() {
        int undone = 0;
        while (undone < 50 && x.undo()) {
            undone++;
            lookAtScene();
        }
        int redone = 0;
        while (redone < 50 && x.redo()) {
            redone++;
        }
        put("undone, redone", undone, redone);
        lookAtScene();
    }

    private void openBoxes() {
        for (int box = 0; box < 3; box++) {
            put("back", x.back(box));
            lookAtScene();
        }
    }

    private void readTape() {
        put("bath", x.bath(), x.fault(0), x.fault(1));
        lookAround();
    }
}

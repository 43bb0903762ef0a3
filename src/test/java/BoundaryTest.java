import java.io.IOException;
import java.util.function.Supplier;

/** The boundary cases that the promises name, each under its own words: the ends of what may be told, and what is refused. */
public final class BoundaryTest {
    private static final int NONE = BathWater.NONE;
    private static final String TEXT = "pool 5 flow 2;water 7 at 0;water 3 at 4;swimmer a manners 5 wants 4 at 2;"
        + "swimmer b manners 4 at 4;swimmer c manners 6;gala 72;draw 5;";

    private final Edges edges = new Edges();

    private BoundaryTest() throws IOException {
    }

    public static void main(String[] args) throws IOException {
        BoundaryTest test = new BoundaryTest();
        test.newObject();
        test.feed();
        test.end();
        test.bath();
        test.fault();
        test.spot();
        test.swimmer();
        test.liking();
        test.step();
        test.stand();
        test.leave();
        test.pour();
        test.drain();
        test.teach();
        test.undo();
        test.redo();
        test.will();
        test.swims();
        test.still();
        test.lure();
        test.both();
        test.orders();
        test.race();
        test.court();
        test.duel();
        test.loss();
        test.earn();
        test.alone();
        test.leader();
        test.plug();
        test.fill();
        test.exchange();
        test.thin();
        test.flood();
        test.between();
        test.ofNow();
        test.darling();
        test.dry();
        test.tide();
        test.law();
        test.odds();
        test.lies();
        test.damp();
        test.untell();
        test.later();
        test.fits();
        test.sure();
        test.ask();
        test.image();
        test.back();
        test.about();
        test.edges.allPromises(53);
        test.edges.end("BoundaryTest");
    }

    /** One in which something is kept wherever something can be: box 1 is empty, c is out of the bath. */
    private static BathWater busy() {
        BathWater x = Texts.bath(TEXT);
        x.step();
        x.image(0);
        x.pour(1, 3);
        x.stand(1, 3);
        x.undo();
        x.later(7);
        x.damp(1, 2, 1, true);
        x.damp(0, 0, 7, true);
        x.later(2);
        x.untell(0);
        x.orders(1);
        x.image(2);
        x.feed(0x67616c61, 0x20333b20, 0x20202020, 0x20202020, 0x20202020);
        return x;
    }

    private static Supplier<BathWater> told(String text) {
        return () -> Texts.bath(text);
    }

    private static int[] row(int... values) {
        return values;
    }

    private void range(long refusal, String name, int[] values, int position, int low, int high) {
        edges.range(BoundaryTest::busy, refusal, name, values, position, low, high);
    }

    /** Answered so, and nothing is done. */
    private void quiet(long want, String name, int... values) {
        edges.quiet(BoundaryTest::busy, want, name, values);
    }

    private void newObject() {
        edges.promise(1, "An empty BATH (6 SPOTS)");
        BathWater x = new BathWater();
        int[] abouts = {0, 6, 9, 0, 0, 0, 0, 0, 0, 0, 0, 0, 0, 0, 0, 0};
        for (int what = 0; what < abouts.length; what++) {
            edges.answers(x, abouts[what], "about", what);
        }
        for (int spot = 0; spot < 6; spot++) {
            edges.answers(x, 0, "spot", spot, 0);
            edges.answers(x, -1, "spot", spot, 1);
            edges.answers(x, 0, "spot", spot, 2);
        }
        edges.answers(x, -2, "spot", 6, 0);
        edges.answers(x, 0, "fault", 0);
        edges.answers(x, NONE, "fault", 1);
        edges.answers(x, NONE, "lies", 0);
        edges.answers(x, 0, "undo");
        edges.answers(x, 0, "redo");
        for (int box = 0; box < 3; box++) {
            edges.answers(x, NONE, "back", box);
        }
    }

    private static BathWater fed(String text) {
        BathWater x = busy();
        x.end(0);
        Texts.feed(x, text);
        return x;
    }

    private void feed() {
        edges.promise(2, "of each number the highest first: how many there are");
        BathWater x = new BathWater();
        edges.answers(x, 20, "feed", 0x706f6f6c, 0x20312066, 0x6c6f7720, 0x37203b0a, 0x20202020);
        edges.answers(x, 0, "bath");
        edges.answers(x, 1, "about", 1);
        edges.answers(x, 7, "about", 2);
        // the bytes of numbers below 0 are 128 and above: each number has its own at its place
        for (int i = 0; i < 20; i++) {
            int[] five = row(0x20202020, 0x20202020, 0x20202020, 0x20202020, 0x20202020);
            five[i / 4] |= 0x80 << 24 - 8 * (i % 4);
            BathWater y = new BathWater();
            edges.answers(y, 20, "feed", five);
            edges.answers(y, NONE, "bath");
            edges.answers(y, 1, "fault", 0);
            edges.answers(y, i, "fault", 1);
        }
        edges.promise(2, "NONE, and nothing comes, if there would be more than 1,600");
        BathWater y = new BathWater();
        for (int i = 1; i <= 80; i++) {
            edges.answers(y, 20 * i, "feed", 0x20202020, 0x20202020, 0x20202020, 0x20202020, 0x20202020);
        }
        edges.answers(y, NONE, "feed", 0, 0, 0, 0, 0);
        edges.answers(y, 1600, "about", 11);
        for (int many : row(1581, 1590, 1599, 1600)) {
            String text = " ".repeat(many - 7) + "pool 4;";
            edges.quiet(() -> fed(text), NONE, "feed", 0, 0, 0, 0, 0);
        }
        edges.answers(fed(" ".repeat(1580)), 1600, "feed", 0, 0, 0, 0, 0);
        edges.answers(fed(" ".repeat(1579)), 1599, "feed", 0, 0, 0, 0, 0);
    }

    private void end() {
        edges.promise(3, "NONE, doing nothing, if it has not so many, or n is below 0");
        range(NONE, "end", row(0), 0, 0, 20);
        edges.answers(busy(), 20, "end", 20);
        edges.answers(busy(), 0, "end", 0);
        edges.quiet(() -> fed(" ".repeat(1600)), NONE, "end", 1601);
        edges.quiet(() -> fed(" ".repeat(1600)), 1600, "end", 1600);
        edges.quiet(() -> fed(""), NONE, "end", 1);
        edges.quiet(() -> fed(""), 0, "end", 0);
        // what was cut off is gone
        BathWater x = fed("pool 4;?");
        edges.answers(x, 7, "end", 7);
        edges.answers(x, NONE, "end", 8);
        edges.answers(x, 0, "bath");
    }

    private void bath() {
        edges.promise(4, "The TAPE (empty then) is the BATH (all as told, step 0, no ACTS are kept, nothing DAMP, nothing lies there, "
            + "BOXES are empty then; the TIME stays): how many SWIMMERS");
        BathWater x = busy();
        edges.answers(x, 0, "bath");
        int[] abouts = {0, 6, 9, 0, 0, 0, 0, 0, 0, 0, 9, 0, 0, 0, 3, 0};
        for (int what = 0; what < abouts.length; what++) {
            edges.answers(x, abouts[what], "about", what);
        }
        for (int box = 0; box < 3; box++) {
            edges.answers(x, NONE, "back", box);
        }
        edges.answers(x, NONE, "lies", 0);
        edges.answers(x, 0, "untell", 1);
        edges.answers(x, 0, "undo");
        edges.answers(x, 0, "redo");
        edges.answers(x, 0, "bath");
        edges.answers(x, 0, "about", 14);
        StringBuilder five = new StringBuilder();
        for (int i = 0; i < 5; i++) {
            edges.answers(fed(five.toString()), i, "bath");
            five.append("swimmer s").append((char) ('a' + i)).append(" manners 1;");
        }
        edges.answers(fed(five.toString()), 5, "bath");
        edges.promise(4, "NONE: a FAULT (all stays)");
        String[] faulty = {"?", "pool", "gala 3;gala 3;", "water 1 at 1;water 1 at 1;", "pool 13;", "likes " + "(".repeat(9)};
        for (String text : faulty) {
            BathWater y = fed(text);
            edges.answers(y, NONE, "bath");
            edges.due("all stays behind " + text, Trace.butForFaults(y).equals(Trace.butForFaults(fed(text))), true);
        }
    }

    private void fault() {
        edges.promise(5, "its FAULT (0), 1: its place (NONE). NONE for another what");
        quiet(0, "fault", 0);
        quiet(NONE, "fault", 1);
        BathWater x = fed("pool 13;");
        edges.answers(x, 0, "fault", 0);
        edges.answers(x, NONE, "bath");
        edges.answers(x, 4, "fault", 0);
        edges.answers(x, 5, "fault", 1);
        for (int what : row(-1, 2, 256, Integer.MIN_VALUE, Integer.MAX_VALUE)) {
            quiet(NONE, "fault", what);
            edges.answers(x, NONE, "fault", what);
        }
        // of the latest one, whether it had a FAULT or not
        edges.answers(x, 0, "end", 0);
        edges.answers(x, 4, "fault", 0);
        edges.answers(x, 0, "bath");
        edges.answers(x, 0, "fault", 0);
        edges.answers(x, NONE, "fault", 1);
    }

    private void spot() {
        edges.promise(6, "(-1: nobody), 2: SWIMMERS who stand there, as bits; -2 if there is none such, or for another what");
        for (int what = 0; what <= 2; what++) {
            range(-2, "spot", row(0, what), 0, 0, 4);
        }
        range(-2, "spot", row(0, 0), 1, 0, 2);
        quiet(-2, "spot", 5, 3);
        edges.quiet(told("pool 1;"), -2, "spot", 1, 0);
        edges.quiet(told("pool 12;"), 0, "spot", 11, 0);
        edges.quiet(told("pool 12;"), -2, "spot", 12, 0);
        edges.quiet(told("swimmer a manners 1 at 0;"), -1, "spot", 1, 1);
        edges.quiet(told("swimmer a manners 1 at 0;"), 0, "spot", 1, 2);
        BathWater five = Texts.bath("swimmer a manners 1 at 3;swimmer b manners 1 at 3;swimmer c manners 1 at 3;"
            + "swimmer d manners 1 at 3;swimmer e manners 1 at 3;");
        edges.answers(five, 31, "spot", 3, 2);
        five.leave(0);
        edges.answers(five, 30, "spot", 3, 2);
    }

    private void swimmer() {
        edges.promise(7, "(-1: out), 1: MANNERS, 2: wants, 3: how often he SWAM, 4: SPOTS whose WATER PREFERS him, as bits; "
            + "-2 if there is none such, or for another what");
        for (int what = 0; what <= 4; what++) {
            range(-2, "swimmer", row(0, what), 0, 0, 2);
        }
        range(-2, "swimmer", row(0, 0), 1, 0, 4);
        quiet(-2, "swimmer", 3, 5);
        quiet(-1, "swimmer", 2, 0);
        quiet(0, "swimmer", 2, 4);
        edges.quiet(BathWater::new, -2, "swimmer", 0, 0);
        edges.quiet(told("pool 12;swimmer a manners 99 at 0;"), 4095, "swimmer", 0, 4);
        edges.quiet(told("pool 12;swimmer a manners 0 at 0;"), 0, "swimmer", 0, 4);
    }

    private void liking() {
        edges.promise(8, "-1000000000 if he is out, or one can't be");
        range(-1000000000, "liking", row(0, 0), 1, 0, 4);
        range(-1000000000, "liking", row(0, 0), 0, 0, 1);
        quiet(-1000000000, "liking", 2, 0);
        quiet(-1000000000, "liking", 3, 0);
        quiet(-1000000000, "liking", 2, 5);
        BathWater x = busy();
        x.stand(2, 0);
        edges.answers(x, 6, "liking", 2, 0);
    }

    private void step() {
        edges.promise(9, "who SWAM, as bits; NONE, doing nothing, behind 999 of them");
        edges.answers(new BathWater(), 0, "step");
        Supplier<BathWater> last = () -> stepped(999);
        edges.quiet(last, NONE, "step");
        edges.answers(stepped(998), 1, "step");
        BathWater x = stepped(999);
        edges.answers(x, 999, "about", 5);
        // one taken back can be made anew
        x.undo();
        edges.answers(x, 1, "step");
        edges.answers(x, NONE, "step");
        edges.answers(x, 999, "about", 5);
        edges.promise(9, "(An ACT.)");
        isAct("step");
    }

    private static BathWater stepped(int times) {
        BathWater x = Texts.bath("pool 2 flow 1;water 9 at 1;swimmer a manners 5 at 1;draw 3;gala 50;");
        for (int i = 0; i < times; i++) {
            x.step();
        }
        return x;
    }

    /** It can be undone and done again, and what was taken back ahead of it can't be done again. */
    private void isAct(String name, int... values) {
        BathWater x = busy();
        edges.answers(x, 2, "about", 7);
        edges.answers(x, 1, "about", 8);
        String ahead = scene(x);
        Calls.call(x, name, values);
        edges.due(name + " does something", scene(x).equals(ahead), false);
        edges.answers(x, 3, "about", 7);
        edges.answers(x, 0, "about", 8);
        edges.answers(x, 0, "redo");
        edges.answers(x, 1, "undo");
        edges.due(name + " taken back", scene(x).equals(ahead), true);
        edges.answers(x, 2, "about", 7);
        edges.answers(x, 1, "about", 8);
        edges.answers(x, 1, "redo");
        BathWater y = busy();
        Calls.call(y, name, values);
        edges.due(name + " done again", Trace.of(x).equals(Trace.of(y)), true);
        isFirstAct(name, values);
    }

    /** It can be taken back if it is the only one, too. */
    private void isFirstAct(String name, int... values) {
        BathWater x = Texts.bath(TEXT);
        String ahead = scene(x);
        Calls.call(x, name, values);
        edges.answers(x, 1, "undo");
        edges.due(name + " taken back", scene(x).equals(ahead), true);
        edges.answers(x, 0, "undo");
    }

    private void stand() {
        edges.promise(10, "where he was (-1: out); -2, doing nothing, if he is there, or one can't be");
        range(-2, "stand", row(0, 1), 0, 0, 2);
        range(-2, "stand", row(2, 1), 1, 0, 4);
        quiet(-2, "stand", 0, 2);
        quiet(-2, "stand", 1, 4);
        quiet(-2, "stand", 3, 5);
        quiet(-2, "stand", 2, -1);
        edges.answers(busy(), -1, "stand", 2, 0);
        edges.answers(busy(), 2, "stand", 0, 4);
        edges.answers(busy(), 4, "stand", 1, 0);
        edges.quiet(BathWater::new, -2, "stand", 0, 0);
        edges.promise(10, "(An ACT.)");
        isAct("stand", 2, 0);
        isAct("stand", 0, 0);
    }

    private void leave() {
        edges.promise(11, "where he was; NONE, doing nothing, if he is out, or there is none such");
        range(NONE, "leave", row(0), 0, 0, 1);
        quiet(NONE, "leave", 3);
        edges.answers(busy(), 2, "leave", 0);
        BathWater x = busy();
        x.stand(0, 0);
        edges.answers(x, 0, "leave", 0);
        edges.answers(x, NONE, "leave", 0);
        edges.quiet(BathWater::new, NONE, "leave", 0);
        edges.promise(11, "(An ACT.)");
        isAct("leave", 0);
    }

    private static BathWater poured(int much) {
        BathWater x = busy();
        x.drain(1, x.spot(1, 0));
        for (int left = much; left > 0; left -= 99) {
            x.pour(1, Math.min(99, left));
        }
        return x;
    }

    private void pour() {
        edges.promise(12, "WATER (1 .. 99) is poured on a SPOT: how much is there");
        range(NONE, "pour", row(3, 1), 0, 0, 4);
        range(NONE, "pour", row(3, 1), 1, 1, 99);
        edges.answers(busy(), 1, "pour", 3, 1);
        edges.answers(busy(), 99, "pour", 3, 99);
        edges.promise(12, "NONE, doing nothing, if that would be above 999, or one can't be");
        edges.answers(poured(998), 999, "pour", 1, 1);
        edges.quiet(() -> poured(998), NONE, "pour", 1, 2);
        edges.quiet(() -> poured(999), NONE, "pour", 1, 1);
        edges.answers(poured(900), 999, "pour", 1, 99);
        edges.quiet(() -> poured(901), NONE, "pour", 1, 99);
        quiet(NONE, "pour", 5, 0);
        edges.promise(12, "(An ACT.)");
        isAct("pour", 3, 1);
    }

    private void drain() {
        edges.promise(13, "WATER is let out (1 .. all there is): how much is there; NONE, doing nothing, if one can't be");
        edges.range(() -> poured(50), NONE, "drain", row(1, 1), 1, 1, 50);
        edges.range(() -> poured(999), NONE, "drain", row(1, 1), 1, 1, 999);
        edges.answers(poured(50), 49, "drain", 1, 1);
        edges.answers(poured(50), 0, "drain", 1, 50);
        edges.quiet(() -> poured(0), NONE, "drain", 1, 1);
        edges.quiet(() -> poured(0), NONE, "drain", 1, 0);
        range(NONE, "drain", row(0, 1), 0, 0, 1);
        for (int spot : row(-1, 5, 12, Integer.MIN_VALUE, Integer.MAX_VALUE)) {
            quiet(NONE, "drain", spot, 1);
        }
        edges.answers(busy(), 2, "drain", 4, 1);
        // more than 999 can come together
        BathWater x = Texts.bath("pool 2 flow 99;swimmer a manners 9 at 0;");
        for (int i = 0; i < 10; i++) {
            x.pour(0, 99);
        }
        x.pour(1, 99);
        x.step();
        edges.answers(x, NONE, "pour", 0, 1);
        edges.answers(x, NONE, "drain", 0, 1090);
        edges.answers(x, 0, "drain", 0, 1089);
        edges.promise(13, "(An ACT.)");
        isAct("drain", 4, 1);
    }

    private void teach() {
        edges.promise(14, "MANNERS (0 .. 99) are told anew: which he had; NONE, doing nothing, if they are the same, or one can't be");
        range(NONE, "teach", row(0, 50), 0, 0, 2);
        range(NONE, "teach", row(0, 50), 1, 0, 99);
        quiet(NONE, "teach", 0, 5);
        quiet(NONE, "teach", 1, 4);
        quiet(NONE, "teach", 2, 6);
        edges.answers(busy(), 5, "teach", 0, 4);
        edges.answers(busy(), 5, "teach", 0, 6);
        edges.answers(busy(), 6, "teach", 2, 0);
        edges.quiet(BathWater::new, NONE, "teach", 0, 0);
        BathWater x = busy();
        x.teach(0, 0);
        edges.answers(x, NONE, "teach", 0, 0);
        edges.answers(x, 0, "teach", 0, 99);
        edges.answers(x, NONE, "teach", 0, 99);
        edges.answers(x, 99, "teach", 0, 0);
        edges.promise(14, "(An ACT.)");
        isAct("teach", 0, 6);
    }

    private void undo() {
        edges.promise(15, "true; false if there is none");
        edges.quiet(BathWater::new, 0, "undo");
        edges.quiet(told(TEXT), 0, "undo");
        BathWater x = busy();
        edges.answers(x, 1, "undo");
        edges.answers(x, 1, "undo");
        edges.answers(x, 0, "undo");
        edges.answers(x, 0, "about", 7);
        edges.answers(x, 3, "about", 8);
        edges.quiet(() -> undone(busy(), 2), 0, "undo");
    }

    private static BathWater undone(BathWater x, int times) {
        for (int i = 0; i < times; i++) {
            x.undo();
        }
        return x;
    }

    private void redo() {
        edges.promise(16, "true; false if there is none");
        edges.quiet(BathWater::new, 0, "redo");
        edges.quiet(told(TEXT), 0, "redo");
        BathWater x = busy();
        edges.answers(x, 1, "redo");
        edges.answers(x, 3, "swimmer", 1, 0);
        edges.answers(x, 0, "redo");
        edges.answers(x, 3, "about", 7);
        edges.answers(x, 0, "about", 8);
        edges.quiet(() -> redone(busy()), 0, "redo");
        // what is refused is no ACT: what was taken back can be done again behind it
        BathWater y = busy();
        y.pour(5, 1);
        y.drain(3, 1);
        y.stand(0, 2);
        y.leave(2);
        y.teach(0, 5);
        edges.answers(y, 1, "redo");
    }

    private static BathWater redone(BathWater x) {
        x.redo();
        return x;
    }

    private void will() {
        edges.promise(17, "behind n STEPS (0 .. 60; galas as the SEED tells (what 1), none (0)); NONE if one can't be");
        range(NONE, "will", row(0, 0, 0), 0, 0, 4);
        range(NONE, "will", row(0, 0, 0), 1, 0, 60);
        range(NONE, "will", row(0, 0, 1), 1, 0, 60);
        range(NONE, "will", row(0, 1, 0), 2, 0, 1);
        quiet(3, "will", 4, 0, 0);
        quiet(3, "will", 4, 0, 1);
        String slow = "pool 2 flow 1;water 99 at 0;swimmer a manners 9 at 1;gala 100;";
        edges.quiet(told(slow), 39, "will", 0, 60, 0);
        edges.quiet(told(slow), 40, "will", 0, 59, 0);
        edges.quiet(told(slow), 0, "will", 0, 60, 1);
        edges.quiet(told(slow), 1, "will", 0, 49, 1);
    }

    private void swims() {
        edges.promise(18, "How often one SWIMS in n STEPS (0 .. 60); NONE if one can't be");
        range(NONE, "swims", row(0, 5), 0, 0, 2);
        range(NONE, "swims", row(0, 5), 1, 0, 60);
        edges.quiet(BathWater::new, NONE, "swims", 0, 0);
        String always = "swimmer a manners 1 wants 0 at 0;swimmer b manners 1 wants 0;";
        edges.quiet(told(always), 60, "swims", 0, 60);
        edges.quiet(told(always), 0, "swims", 0, 0);
        edges.quiet(told(always), 0, "swims", 1, 60);
    }

    private void still() {
        edges.promise(19, "STILL (0 .. 60); NONE if not within these");
        String text = "pool 2 flow 1;water %d at 0;swimmer a manners 9 at 1;";
        edges.quiet(told(String.format(text, 0)), 0, "still");
        edges.quiet(told(String.format(text, 1)), 1, "still");
        edges.quiet(told(String.format(text, 59)), 59, "still");
        edges.quiet(told(String.format(text, 60)), 60, "still");
        edges.quiet(told(String.format(text, 61)), NONE, "still");
        edges.quiet(told(String.format(text, 99)), NONE, "still");
        edges.quiet(BathWater::new, 0, "still");
        BathWater x = Texts.bath(String.format(text, 61));
        x.step();
        edges.answers(x, 60, "still");
    }

    private void lure() {
        edges.promise(20, "LURE (n 0 .. 20) what 0: the SPOT, 1: how much WATER; NONE if one can't be");
        range(NONE, "lure", row(0, 3, 0), 0, 0, 2);
        range(NONE, "lure", row(0, 3, 0), 1, 0, 20);
        range(NONE, "lure", row(0, 3, 1), 2, 0, 1);
        edges.quiet(BathWater::new, NONE, "lure", 0, 0, 0);
        String slow = "pool 2 flow 1;water 50 at 0;water 49 at 1;swimmer a manners 9;";
        edges.quiet(told(slow), 0, "lure", 0, 0, 0);
        edges.quiet(told(slow), 50, "lure", 0, 0, 1);
        edges.quiet(told(slow), 70, "lure", 0, 20, 1);
    }

    private void both() {
        edges.promise(21, "BOTH (n 1 .. 10) what 0: the first one's SPOT, 1: the other one's, 2: how often together; "
            + "NONE if both are one, or one can't be");
        range(NONE, "both", row(0, 1, 1, 0), 2, 1, 10);
        range(NONE, "both", row(0, 1, 1, 0), 3, 0, 2);
        range(NONE, "both", row(0, 2, 1, 0), 0, 0, 1);
        range(NONE, "both", row(0, 1, 1, 0), 1, 1, 2);
        for (int who = -1; who <= 3; who++) {
            quiet(NONE, "both", who, who, 1, 0);
            quiet(NONE, "both", who, 3, 1, 0);
            quiet(NONE, "both", 3, who, 1, 0);
            quiet(NONE, "both", who, -1, 1, 0);
        }
        String always = "swimmer a manners 1 wants 0;swimmer b manners 1 wants 0 at 5;";
        edges.quiet(told(always), 20, "both", 0, 1, 10, 2);
        edges.quiet(told(always), 2, "both", 0, 1, 1, 2);
        edges.quiet(told("swimmer a manners 1;"), NONE, "both", 0, 1, 1, 0);
    }

    private void orders() {
        edges.promise(22, "TURNS (n 1 .. 3): how often all together; NONE without SWIMMERS, or for another n");
        edges.answers(busy(), 3, "orders", 1);
        edges.answers(busy(), 9, "orders", 3);
        for (int n : row(0, 4, -1, 257, Integer.MIN_VALUE, Integer.MAX_VALUE)) {
            edges.answers(busy(), NONE, "orders", n);
        }
        for (int n = 0; n <= 4; n++) {
            edges.answers(new BathWater(), NONE, "orders", n);
        }
        edges.promise(22, "The order lies there then (behind NONE: nothing)");
        BathWater x = busy();
        edges.answers(x, 3, "about", 13);
        edges.answers(x, NONE, "orders", 4);
        liesNothing(x);
        edges.answers(x, 3, "orders", 1);
        edges.answers(x, 3, "about", 13);
        edges.answers(x, NONE, "orders", 0);
        liesNothing(x);
        // but for what lies there nothing is done
        BathWater y = busy();
        y.orders(1);
        edges.due("nothing is done", Trace.of(y).equals(Trace.of(busy())), true);
    }

    private void liesNothing(BathWater x) {
        edges.answers(x, 0, "about", 13);
        for (int i = 0; i < 5; i++) {
            edges.answers(x, NONE, "lies", i);
        }
    }

    private void race() {
        edges.promise(23, "RACE (1 .. 20 times; 60 STEPS at most) what 0: who, 1: behind how many STEPS; "
            + "NONE if nobody does, or one can't be");
        range(NONE, "race", row(1, 0), 0, 1, 20);
        range(NONE, "race", row(1, 0), 1, 0, 1);
        edges.quiet(BathWater::new, NONE, "race", 1, 0);
        edges.quiet(told("swimmer a manners 1 wants 0;"), NONE, "race", 1, 0);
        edges.quiet(told("swimmer a manners 1 wants 1 at 0;"), NONE, "race", 1, 1);
        String text = "pool 2 flow 1;water 99 at 0;swimmer a manners 9 wants %d at 1;";
        edges.quiet(told(String.format(text, 60)), 60, "race", 1, 1);
        edges.quiet(told(String.format(text, 60)), 0, "race", 1, 0);
        edges.quiet(told(String.format(text, 61)), NONE, "race", 1, 1);
        edges.quiet(told(String.format(text, 61)), NONE, "race", 1, 0);
        edges.quiet(told(String.format(text, 41)), 60, "race", 20, 1);
        edges.quiet(told(String.format(text, 42)), NONE, "race", 20, 1);
        // from now on
        BathWater x = Texts.bath("swimmer a manners 1 wants 0 at 0;");
        x.step();
        edges.answers(x, 1, "race", 1, 1);
    }

    private void court() {
        edges.promise(24, "NONE if none is enough, he is out, or one can't be");
        range(NONE, "court", row(0, 0), 0, 0, 1);
        range(NONE, "court", row(0, 0), 1, 0, 4);
        quiet(NONE, "court", 2, 0);
        quiet(NONE, "court", 3, 0);
        edges.quiet(told("pool 12;swimmer a manners 0 at 0;"), 1, "court", 0, 0);
        edges.quiet(told("pool 12;swimmer a manners 0 at 0;"), 12, "court", 0, 11);
        edges.quiet(told("pool 12;swimmer a manners 99 at 0;likes manners*(far<1);"), NONE, "court", 0, 11);
        edges.quiet(told("pool 12;swimmer a manners 99 at 0;likes 0-manners;"), NONE, "court", 0, 0);
        edges.quiet(told("pool 12;swimmer a manners 99 at 0;likes 1-manners;"), 0, "court", 0, 0);
        edges.quiet(BathWater::new, NONE, "court", 0, 0);
    }

    private static BathWater rivals() {
        BathWater x = Texts.bath("pool 3;water 9 at 1;swimmer a manners 98 at 0;swimmer b manners 99 at 2;swimmer c manners 1;");
        x.orders(1);
        return x;
    }

    private void duel() {
        edges.promise(25, "DUEL (n 1 .. 10): how many RESTS; NONE if both are one, one is out, or one can't be");
        edges.answers(rivals(), 1, "duel", 0, 1, 1);
        edges.answers(rivals(), 1, "duel", 0, 1, 10);
        for (int n : row(0, 11, -1, 257, Integer.MIN_VALUE, Integer.MAX_VALUE)) {
            noDuel(0, 1, n);
        }
        for (int who : row(-1, 0, 2, 3, 5, 256, Integer.MIN_VALUE, Integer.MAX_VALUE)) {
            noDuel(0, who, 1);
            noDuel(who, 0, 1);
        }
        noDuel(1, 1, 1);
        noDuel(2, 2, 1);
        noDuel(3, 3, 1);
        noDuel(-1, -1, 1);
        noDuel(1, 2, 1);
        noDuel(2, 1, 1);
        edges.answers(new BathWater(), NONE, "duel", 0, 1, 1);
        edges.promise(25, "(the first one's, the other one's; of like ones the least numbers; behind 0, NONE: nothing)");
        BathWater x = rivals();
        edges.answers(x, 1, "duel", 0, 1, 1);
        edges.answers(x, 2, "about", 13);
        edges.answers(x, 1, "lies", 0);
        edges.answers(x, 0, "lies", 1);
        edges.answers(x, NONE, "lies", 2);
        edges.answers(x, 1, "duel", 1, 0, 1);
        edges.answers(x, 0, "lies", 0);
        edges.answers(x, 1, "lies", 1);
        x.teach(0, 90);
        x.teach(1, 90);
        edges.answers(x, 0, "duel", 0, 1, 1);
        liesNothing(x);
        manyRests();
    }

    private void noDuel(int one, int other, int n) {
        BathWater x = rivals();
        edges.answers(x, 3, "about", 13);
        edges.answers(x, NONE, "duel", one, other, n);
        liesNothing(x);
        x.orders(1);
        edges.due("nothing is done", Trace.of(x).equals(Trace.of(rivals())), true);
    }

    /** Both stand at one SPOT, so that it is enough if one of them makes his MANNERS more. */
    private void manyRests() {
        BathWater x = Texts.bath("pool 4;water 9 at 3;swimmer a manners 2 at 0;swimmer b manners 1 at 0;");
        edges.answers(x, 2, "duel", 0, 1, 3);
        edges.answers(x, 0, "lies", 0);
        edges.answers(x, 3, "lies", 1);
        edges.answers(x, 2, "duel", 1, 0, 3);
        edges.answers(x, 0, "lies", 0);
        edges.answers(x, 2, "lies", 1);
        BathWater five = Texts.bath("pool 5;water 9 at 4;swimmer a manners 0 at 0;swimmer b manners 0 at 0;");
        edges.answers(five, 2, "duel", 0, 1, 10);
        edges.answers(five, 0, "lies", 0);
        edges.answers(five, 5, "lies", 1);
        // six more are needed, or 100: it is in vain
        BathWater six = Texts.bath("pool 6;water 9 at 5;swimmer a manners 0 at 0;swimmer b manners 0 at 0;");
        edges.answers(six, 1, "duel", 0, 1, 10);
        edges.answers(six, 0, "lies", 0);
        edges.answers(six, 0, "lies", 1);
        BathWater hundred = Texts.bath("pool 2;water 9 at 1;swimmer a manners 96 at 0;swimmer b manners 0 at 0;likes manners>99;");
        edges.answers(hundred, 1, "duel", 0, 1, 1);
        edges.answers(hundred, 0, "lies", 0);
        BathWater most = Texts.bath("pool 2;water 9 at 1;swimmer a manners 0 at 0;swimmer b manners 96 at 0;likes manners>98;");
        edges.answers(most, 1, "duel", 0, 1, 1);
        edges.answers(most, 3, "lies", 1);
    }

    private void loss() {
        edges.promise(26, "LOSS (n 0 .. 60); -1000000 if he is out, or one can't be");
        range(-1000000, "loss", row(0, 5), 0, 0, 1);
        range(-1000000, "loss", row(0, 5), 1, 0, 60);
        quiet(-1000000, "loss", 2, 5);
        quiet(-1000000, "loss", 3, 5);
        quiet(0, "loss", 0, 0);
        edges.quiet(told("swimmer a manners 1 wants 0 at 0;"), 0, "loss", 0, 60);
        edges.quiet(BathWater::new, -1000000, "loss", 0, 0);
    }

    private void earn() {
        edges.promise(27, "by which one SWIMS so often (0 .. 60) at least in n STEPS (0 .. 60); NONE if none is enough, or one can't be");
        range(NONE, "earn", row(0, 5, 0), 0, 0, 2);
        range(NONE, "earn", row(0, 5, 0), 1, 0, 60);
        range(NONE, "earn", row(1, 60, 0), 2, 0, 60);
        String text = "pool 2 flow 1;water 9 at 0;swimmer a manners 50 at 1;likes %s;";
        edges.quiet(told(String.format(text, "1")), 0, "earn", 0, 60, 60);
        edges.quiet(told(String.format(text, "manners>0")), 1, "earn", 0, 60, 60);
        edges.quiet(told(String.format(text, "manners>98")), 99, "earn", 0, 60, 60);
        edges.quiet(told(String.format(text, "manners>99")), NONE, "earn", 0, 60, 60);
        edges.quiet(told(String.format(text, "manners>99")), NONE, "earn", 0, 60, 1);
        edges.quiet(told(String.format(text, "manners>99")), 0, "earn", 0, 60, 0);
        edges.quiet(told(String.format(text, "1")), 0, "earn", 0, 59, 59);
        edges.quiet(told(String.format(text, "1")), NONE, "earn", 0, 59, 60);
        edges.quiet(told(String.format(text, "1")), 0, "earn", 0, 0, 0);
        edges.quiet(told(String.format(text, "1")), NONE, "earn", 0, 0, 1);
        edges.quiet(told("swimmer a manners 1 wants 0;"), NONE, "earn", 0, 60, 1);
        edges.quiet(BathWater::new, NONE, "earn", 0, 0, 0);
    }

    private void alone() {
        edges.promise(28, "in n STEPS (0 .. 60), if all others left now; NONE if one can't be");
        range(NONE, "alone", row(0, 5), 0, 0, 2);
        range(NONE, "alone", row(0, 5), 1, 0, 60);
        String text = "pool 2;water 9 at 0;swimmer a manners 9 at 0;swimmer b manners 5 wants 9 at 1;swimmer c manners 1 wants 0;";
        edges.quiet(told(text), 60, "alone", 1, 60);
        edges.quiet(told(text), 0, "alone", 1, 0);
        edges.quiet(told(text), 0, "alone", 2, 60);
        edges.quiet(BathWater::new, NONE, "alone", 0, 0);
    }

    private void leader() {
        edges.promise(29, "in n STEPS (0 .. 60); of like ones the first; NONE without SWIMMERS, or for another n");
        range(NONE, "leader", row(5), 0, 0, 60);
        quiet(0, "leader", 0);
        edges.quiet(BathWater::new, NONE, "leader", 0);
        edges.quiet(BathWater::new, NONE, "leader", 60);
        edges.quiet(told("swimmer a manners 1;swimmer b manners 1 at 0;"), 0, "leader", 60);
        edges.quiet(told("swimmer a manners 1;swimmer b manners 1 wants 0 at 0;swimmer c manners 1 wants 0 at 0;"), 1, "leader", 1);
        String last = "pool 2 flow 1;water 99 at 0;swimmer a manners 0 wants 40 at 0;swimmer b manners 9 wants 1 at 1;";
        edges.quiet(told(last), 0, "leader", 59);
        edges.quiet(told(last), 1, "leader", 60);
    }

    private void plug() {
        edges.promise(30, "in n STEPS (0 .. 60); of like ones the first: what 0: it, 1: how often; NONE without WATER, or if one can't be");
        range(NONE, "plug", row(5, 0), 0, 0, 60);
        range(NONE, "plug", row(5, 0), 1, 0, 1);
        edges.quiet(BathWater::new, NONE, "plug", 5, 0);
        edges.quiet(BathWater::new, NONE, "plug", 5, 1);
        edges.quiet(told("swimmer a manners 1 wants 0 at 0;"), NONE, "plug", 5, 1);
        edges.quiet(told("pool 12;water 1 at 11;swimmer a manners 1 wants 0 at 0;"), 11, "plug", 60, 0);
        edges.quiet(told("pool 12;water 1 at 11;swimmer a manners 1 wants 0 at 0;"), 60, "plug", 60, 1);
        edges.quiet(told("pool 12;water 1 at 11;swimmer a manners 1 wants 0 at 0;"), 0, "plug", 0, 1);
        edges.quiet(told("water 1 at 2;water 1 at 4;"), 2, "plug", 60, 0);
        edges.quiet(told("water 1 at 2;water 1 at 4;"), 0, "plug", 60, 1);
        // without all of it, not some of it
        edges.quiet(told("pool 2;water 99 at 0;swimmer a manners 1 at 0;"), 0, "plug", 60, 1);
    }

    private void fill() {
        edges.promise(31, "so much WATER (1 .. 99) more makes all SWIM most often in n STEPS (0 .. 60); of like ones the first: "
            + "what 0: it, 1: how often; NONE if one can't be");
        range(NONE, "fill", row(5, 9, 0), 0, 0, 60);
        range(NONE, "fill", row(5, 9, 0), 1, 1, 99);
        range(NONE, "fill", row(5, 9, 0), 2, 0, 1);
        edges.quiet(BathWater::new, 0, "fill", 60, 99, 0);
        edges.quiet(BathWater::new, 0, "fill", 60, 99, 1);
        String text = "pool 12;swimmer a manners 0 wants 99 at 11;";
        edges.quiet(told(text), 11, "fill", 60, 99, 0);
        edges.quiet(told(text), 60, "fill", 60, 99, 1);
        edges.quiet(told(text), 0, "fill", 60, 98, 0);
        edges.quiet(told(text), 0, "fill", 60, 98, 1);
        edges.quiet(told(text), 0, "fill", 0, 99, 0);
        edges.quiet(told("pool 1;water 98 at 0;swimmer a manners 0 wants 99 at 0;"), 1, "fill", 1, 1, 1);
    }

    private void exchange() {
        edges.promise(32, "in n STEPS (0 .. 60), if that is oftener than as it is; of like ones the first "
            + "(the lesser number, then the other one): what 0: the first one, 1: the other one, 2: how often; "
            + "NONE if there are none, or one can't be");
        Supplier<BathWater> wrongWay = told("pool 3;water 9 at 0;swimmer a manners 0 wants 0 at 0;swimmer b manners 0 wants 9 at 1;");
        edges.range(wrongWay, NONE, "exchange", row(5, 0), 0, 1, 60);
        edges.range(wrongWay, NONE, "exchange", row(5, 0), 1, 0, 2);
        edges.quiet(wrongWay, NONE, "exchange", 0, 2);
        edges.quiet(wrongWay, 0, "exchange", 60, 0);
        edges.quiet(wrongWay, 1, "exchange", 60, 1);
        edges.quiet(wrongWay, 120, "exchange", 60, 2);
        edges.quiet(wrongWay, 2, "exchange", 1, 2);
        edges.quiet(BathWater::new, NONE, "exchange", 60, 0);
        edges.quiet(told("swimmer a manners 0 wants 0 at 0;"), NONE, "exchange", 60, 0);
        edges.quiet(told("swimmer a manners 0 wants 0 at 0;swimmer b manners 0 wants 0 at 1;"), NONE, "exchange", 60, 0);
        // one who is out is not exchanged
        edges.quiet(told("water 9 at 0;swimmer a manners 0 wants 99 at 0;swimmer b manners 0 wants 9;"), NONE, "exchange", 60, 0);
        edges.quiet(told("water 9 at 0;swimmer a manners 0 wants 9;swimmer b manners 0 wants 99 at 0;"), NONE, "exchange", 60, 0);
        String last = "pool 2;water 9 at 1;swimmer a manners 0;swimmer b manners 0;swimmer c manners 0;"
            + "swimmer d manners 0 wants 9 at 0;swimmer e manners 0 wants 99 at 1;";
        edges.quiet(told(last), 3, "exchange", 60, 0);
        edges.quiet(told(last), 4, "exchange", 60, 1);
        edges.quiet(told(last), 60, "exchange", 60, 2);
        // both of these two exchanges make as much: the first one's; and those with a lesser number than the other one come first
        String ties = "pool 4;water 9 at 3;swimmer a manners 0 wants 9 at 0;swimmer b manners 0 wants 9 at 1;"
            + "swimmer c manners 0 wants 99 at 3;";
        edges.quiet(told(ties), 0, "exchange", 3, 0);
        edges.quiet(told(ties), 2, "exchange", 3, 1);
        edges.quiet(told(ties), 3, "exchange", 3, 2);
        String others = "pool 4;water 9 at 3;swimmer a manners 0 wants 9 at 0;swimmer b manners 0 wants 99 at 3;"
            + "swimmer c manners 0 wants 99 at 3;swimmer d manners 0 wants 9 at 0;swimmer e manners 0 wants 0;";
        edges.quiet(told(others), 0, "exchange", 3, 0);
        edges.quiet(told(others), 1, "exchange", 3, 1);
    }

    private void thin() {
        edges.promise(33, "so that all who stay SWIM in n STEPS (0 .. 60), once at least; of like ones the least set as bits: "
            + "what 0: how many, 1: which; NONE if one can't be");
        range(NONE, "thin", row(5, 0), 0, 0, 60);
        range(NONE, "thin", row(5, 0), 1, 0, 1);
        edges.quiet(BathWater::new, 0, "thin", 60, 0);
        edges.quiet(BathWater::new, 0, "thin", 60, 1);
        String five = "swimmer a manners 1 at 0;swimmer b manners 1 at 0;swimmer c manners 1 at 0;swimmer d manners 1 at 0;"
            + "swimmer e manners 1 at 0;";
        edges.quiet(told(five), 5, "thin", 60, 0);
        edges.quiet(told(five), 31, "thin", 60, 1);
        edges.quiet(told("water 1 at 0;" + five), 0, "thin", 1, 0);
        edges.quiet(told("water 1 at 0;" + five), 0, "thin", 1, 1);
        edges.quiet(told("water 1 at 0;" + five), 31, "thin", 0, 1);
        // one of two must leave: the least set
        String two = "pool 3;water 9 at 1;swimmer a manners 9 wants 9 at 0;swimmer b manners 9 wants 9 at 2;";
        edges.quiet(told(two), 1, "thin", 60, 0);
        edges.quiet(told(two), 1, "thin", 60, 1);
        // he swims at the sixtieth, once
        String late = "pool 2 flow 1;water 99 at 0;swimmer a manners 9 wants 60 at 1;";
        edges.quiet(told(late), 0, "thin", 60, 0);
        edges.quiet(told(late), 1, "thin", 59, 0);
        edges.quiet(told("swimmer a manners 1;swimmer b manners 1 at 0;swimmer c manners 1;"), 2, "thin", 60, 1);
    }

    private static BathWater full() {
        BathWater x = Texts.bath("pool 2 flow 99;swimmer a manners 9 at 0;");
        for (int i = 0; i < 10; i++) {
            x.pour(0, 99);
        }
        x.pour(0, 8);
        x.pour(1, 1);
        return x;
    }

    private void flood() {
        edges.promise(34, "Behind how many STEPS (0 .. 60) there is so much WATER (0 .. 999) at a SPOT first; "
            + "NONE if never in these, or one can't be");
        range(NONE, "flood", row(0, 0), 0, 0, 4);
        edges.range(BoundaryTest::full, NONE, "flood", row(0, 0), 1, 0, 999);
        edges.quiet(BoundaryTest::full, 0, "flood", 0, 998);
        edges.quiet(BoundaryTest::full, 1, "flood", 0, 999);
        edges.quiet(BoundaryTest::full, NONE, "flood", 0, 1000);
        edges.quiet(BathWater::new, 0, "flood", 0, 0);
        edges.quiet(BathWater::new, NONE, "flood", 0, 1);
        String slow = "pool 2 flow 1;water 99 at 0;swimmer a manners 9 at 1;";
        edges.quiet(told(slow), 0, "flood", 1, 0);
        edges.quiet(told(slow), 1, "flood", 1, 1);
        edges.quiet(told(slow), 60, "flood", 1, 60);
        edges.quiet(told(slow), NONE, "flood", 1, 61);
        edges.quiet(told(slow), 0, "flood", 0, 99);
        edges.quiet(told(slow), NONE, "flood", 0, 100);
    }

    private void between() {
        edges.promise(35, "(both counted, in whichever order); NONE if one can't be");
        range(NONE, "between", row(0, 2), 0, 0, 4);
        range(NONE, "between", row(2, 0), 1, 0, 4);
        quiet(NONE, "between", -1, 5);
        Supplier<BathWater> row = told("pool 12;water 1 at 0;water 2 at 1;water 4 at 2;water 8 at 3;water 16 at 10;water 32 at 11;");
        edges.quiet(row, 63, "between", 0, 11);
        edges.quiet(row, 63, "between", 11, 0);
        edges.quiet(row, 6, "between", 1, 2);
        edges.quiet(row, 6, "between", 2, 1);
        edges.quiet(row, 1, "between", 0, 0);
        edges.quiet(row, 32, "between", 11, 11);
        edges.quiet(row, 0, "between", 4, 9);
    }

    private void ofNow() {
        edges.promise(36, "SPREAD");
        edges.quiet(BathWater::new, 0, "spread");
        edges.quiet(told("pool 1;water 1 at 0;"), 1, "spread");
        edges.quiet(told("pool 12;water 1 at 0;water 1 at 11;"), 12, "spread");
        edges.quiet(told("pool 12;water 1 at 10;water 0 at 0;water 1 at 11;"), 2, "spread");
        edges.promise(37, "DRAWN, as bits");
        edges.quiet(BathWater::new, 0, "drawn");
        edges.quiet(told("pool 1;swimmer a manners 1 at 0;"), 1, "drawn");
        edges.quiet(told("pool 1;swimmer a manners 0 at 0;"), 0, "drawn");
        edges.quiet(told("pool 12;swimmer a manners 12 at 0;"), 4095, "drawn");
        edges.quiet(told("pool 12;swimmer a manners 1 at 11;"), 2048, "drawn");
        edges.promise(38, "The SPOT of most WATER; of like ones the first");
        edges.quiet(BathWater::new, 0, "deepest");
        edges.quiet(told("pool 1;"), 0, "deepest");
        edges.quiet(told("pool 12;water 1 at 1;"), 1, "deepest");
        edges.quiet(told("pool 12;water 1 at 11;"), 11, "deepest");
        edges.quiet(told("pool 12;water 1 at 11;water 1 at 0;"), 0, "deepest");
        edges.quiet(told("pool 12;water 2 at 11;water 1 at 0;water 2 at 10;"), 10, "deepest");
    }

    private void darling() {
        edges.promise(39, "of like ones the first; NONE if nobody is in it");
        edges.quiet(BathWater::new, NONE, "darling");
        edges.quiet(told("swimmer a manners 99;"), NONE, "darling");
        edges.quiet(told("swimmer a manners 99;swimmer b manners 0 at 0;swimmer c manners 0 at 0;"), 1, "darling");
        edges.quiet(told("pool 2;swimmer a manners 9 at 0;swimmer b manners 9 at 1;"), 0, "darling");
        edges.quiet(told("pool 3;swimmer a manners 9 at 0;swimmer b manners 9 at 2;"), 0, "darling");
        edges.quiet(told("pool 3;swimmer a manners 9 at 0;swimmer b manners 10 at 2;"), 1, "darling");
    }

    private void dry() {
        edges.promise(40, "SWIMMERS in the bath who do not SWIM in n STEPS (0 .. 60), as bits; NONE for another n");
        range(NONE, "dry", row(5), 0, 0, 60);
        quiet(3, "dry", 0);
        edges.quiet(BathWater::new, 0, "dry", 60);
        edges.quiet(BathWater::new, NONE, "dry", 61);
        String late = "pool 2 flow 1;water 99 at 0;swimmer a manners 0 wants 0;swimmer b manners 9 wants 60 at 1;";
        edges.quiet(told(late), 2, "dry", 59);
        edges.quiet(told(late), 0, "dry", 60);
    }

    private void tide() {
        edges.promise(41, "behind any of the next n STEPS (0 .. 60; now, too); NONE if one can't be");
        range(NONE, "tide", row(0, 5), 0, 0, 4);
        range(NONE, "tide", row(0, 5), 1, 0, 60);
        String slow = "pool 2 flow 1;water 99 at 0;swimmer a manners 9 at 1;";
        edges.quiet(told(slow), 0, "tide", 1, 0);
        edges.quiet(told(slow), 1, "tide", 1, 1);
        edges.quiet(told(slow), 60, "tide", 1, 60);
        edges.quiet(told(slow), 99, "tide", 0, 0);
        edges.quiet(told(slow), 99, "tide", 0, 60);
        edges.quiet(told("pool 3 flow 9;water 9 at 0;swimmer a manners 9 at 2;"), 9, "tide", 1, 60);
    }

    private void law() {
        edges.promise(42, "in n STEPS (0 .. 60), if MANNERS of all were so much (0 .. 99); NONE if one can't be");
        range(NONE, "law", row(5, 9), 0, 0, 60);
        range(NONE, "law", row(5, 9), 1, 0, 99);
        edges.quiet(BathWater::new, 0, "law", 60, 99);
        edges.quiet(BathWater::new, NONE, "law", 61, 99);
        String text = "pool 2;water 9 at 0;swimmer a manners 50 at 1;likes manners>%d;";
        edges.quiet(told(String.format(text, 98)), 60, "law", 60, 99);
        edges.quiet(told(String.format(text, 98)), 0, "law", 60, 98);
        edges.quiet(told(String.format(text, 0)), 60, "law", 60, 1);
        edges.quiet(told(String.format(text, 0)), 0, "law", 60, 0);
        edges.quiet(told(String.format(text, 0)), 0, "law", 0, 99);
    }

    private void odds() {
        edges.promise(43, "ODDS (n 0 .. 4) the upper part (0), the lower part (1), in lowest terms (0 of 1); NONE if one can't be");
        range(NONE, "odds", row(1, 0), 0, 0, 4);
        range(NONE, "odds", row(1, 0), 1, 0, 1);
        odds(0, 0, 1, 1);
        odds(0, 4, 1, 1);
        odds(100, 0, 1, 1);
        odds(100, 1, 0, 1);
        odds(100, 4, 0, 1);
        odds(1, 4, 96059601, 100000000);
        odds(99, 4, 1, 100000000);
        odds(99, 1, 1, 100);
        odds(50, 1, 1, 2);
        odds(50, 4, 1, 16);
        odds(25, 2, 9, 16);
        odds(98, 4, 1, 6250000);
    }

    private void odds(int gala, int n, int upper, int lower) {
        edges.quiet(told("gala " + gala + ";"), upper, "odds", n, 0);
        edges.quiet(told("gala " + gala + ";"), lower, "odds", n, 1);
    }

    private void lies() {
        edges.promise(44, "The i-th number of what lies there; NONE if there is none such");
        for (int i : row(-1, 3, 4, 5, 6, 256, Integer.MIN_VALUE, Integer.MAX_VALUE)) {
            quiet(NONE, "lies", i);
        }
        range(NONE, "lies", row(0), 0, 0, 2);
        edges.quiet(BathWater::new, NONE, "lies", 0);
        // what lay there behind those that lie there now is gone
        BathWater x = busy();
        x.duel(0, 1, 1);
        edges.due("two or none lie", x.about(13) == 2 || x.about(13) == 0, true);
        edges.answers(x, NONE, "lies", 2);
    }

    private static BathWater damped(int times) {
        BathWater x = busy();
        for (int i = 2; i < times; i++) {
            x.damp(0, 0, 0, true);
        }
        return x;
    }

    private void damp() {
        edges.promise(45, "A DAMP (STEPS 0 .. 9, WATER 0 .. 999): its number; NONE, doing nothing, if one can't be, "
            + "there are 30, or no SWIMMERS");
        range(NONE, "damp", row(0, 0, 0, 1), 0, 0, 9);
        range(NONE, "damp", row(0, 0, 0, 1), 1, 0, 4);
        range(NONE, "damp", row(0, 0, 0, 0), 2, 0, 999);
        edges.answers(busy(), 2, "damp", 9, 4, 999, 0);
        edges.answers(damped(29), 29, "damp", 0, 0, 0, 1);
        edges.quiet(() -> damped(30), NONE, "damp", 0, 0, 0, 1);
        edges.quiet(BathWater::new, NONE, "damp", 0, 0, 0, 1);
        edges.quiet(told("pool 2;water 3 at 1;"), NONE, "damp", 0, 0, 0, 1);
        edges.answers(Texts.bath("swimmer a manners 1;"), 0, "damp", 0, 0, 0, 1);
        // one that can't be does not take a number
        BathWater x = busy();
        edges.answers(x, NONE, "damp", 10, 0, 0, 1);
        edges.answers(x, 2, "damp", 9, 0, 0, 1);
    }

    private void untell() {
        edges.promise(46, "It is UNTOLD: true; false if it is so already, or there is none such");
        edges.answers(busy(), 1, "untell", 1);
        quiet(0, "untell", 0);
        for (int damp : row(-1, 2, 29, 30, 256, Integer.MIN_VALUE, Integer.MAX_VALUE)) {
            quiet(0, "untell", damp);
        }
        edges.answers(damped(30), 1, "untell", 29);
        edges.quiet(() -> damped(30), 0, "untell", 30);
        edges.quiet(BathWater::new, 0, "untell", 0);
        // it stays UNTOLD since the first time
        BathWater x = Texts.bath("swimmer a manners 1;");
        x.damp(0, 0, 1, true);
        x.later(3);
        edges.answers(x, 1, "untell", 0);
        x.later(5);
        edges.answers(x, 0, "untell", 0);
        edges.answers(x, 0, "fits", 2);
        edges.answers(x, 100, "fits", 3);
    }

    private static BathWater late(int by) {
        BathWater x = new BathWater();
        for (int i = 0; i < 99; i++) {
            x.later(1000);
        }
        x.later(by);
        return x;
    }

    private void later() {
        edges.promise(47, "So much later (0 .. 1000): the TIME; NONE, doing nothing, for another number, "
            + "or if it would be above 100,000");
        range(NONE, "later", row(0), 0, 0, 1000);
        edges.quiet(BoundaryTest::busy, 9, "later", 0);
        edges.answers(busy(), 1009, "later", 1000);
        edges.answers(late(0), 100000, "later", 1000);
        edges.answers(late(999), 100000, "later", 1);
        edges.quiet(() -> late(999), NONE, "later", 2);
        edges.quiet(() -> late(1000), NONE, "later", 1);
        edges.quiet(() -> late(1000), 100000, "later", 0);
        edges.quiet(() -> late(1), NONE, "later", 1000);
    }

    private void fits() {
        edges.promise(48, "how many (0 without SWIMMERS)");
        edges.quiet(BathWater::new, 0, "fits", 0);
        edges.quiet(told("water 1 at 0;"), 0, "fits", 0);
        edges.quiet(told("swimmer a manners 1;"), 100, "fits", 0);
        for (int k : row(Integer.MIN_VALUE, -1, 0, 6, 9, 100000, Integer.MAX_VALUE)) {
            quiet(100, "fits", k);
        }
        quiet(0, "fits", 7);
        quiet(0, "fits", 8);
        BathWater none = Texts.bath("swimmer a manners 1;");
        none.damp(0, 0, 1, true);
        edges.answers(none, 0, "fits", 0);
        edges.answers(none, 100, "fits", -1);
        // of one SWIMMER alone he is the last one
        BathWater one = Texts.bath("pool 2;water 9 at 0;swimmer a manners 1 at 1;likes manners=99;");
        one.damp(1, 1, 9, true);
        edges.answers(one, 1, "fits", 0);
    }

    private void sure() {
        edges.promise(49, "The least of FITS (what 0), the greatest (1); NONE if none FITS, or for another what");
        range(NONE, "sure", row(0, 9), 0, 0, 1);
        quiet(0, "sure", 0, 9);
        quiet(99, "sure", 1, 9);
        edges.quiet(BathWater::new, NONE, "sure", 0, 0);
        edges.quiet(BathWater::new, NONE, "sure", 1, 0);
        for (int only : row(0, 1, 98, 99)) {
            BathWater one = Texts.bath("pool 2;water 9 at 0;swimmer a manners 1 at 1;likes manners=" + only + ";");
            one.damp(1, 1, 9, true);
            edges.answers(one, only, "sure", 0, 0);
            edges.answers(one, only, "sure", 1, 0);
        }
        BathWater none = Texts.bath("swimmer a manners 1;");
        none.damp(0, 0, 1, true);
        edges.answers(none, NONE, "sure", 0, 0);
        edges.answers(none, NONE, "sure", 1, 0);
    }

    private void ask() {
        edges.promise(50, "ASK (STEPS 0 .. 9) what 0: the SPOT, 1: how many are left at the most; NONE if none FITS, or one can't be");
        range(NONE, "ask", row(0, 0, 9), 0, 0, 9);
        range(NONE, "ask", row(0, 0, 9), 1, 0, 1);
        edges.quiet(BathWater::new, NONE, "ask", 0, 0, 0);
        BathWater none = Texts.bath("swimmer a manners 1;");
        none.damp(0, 0, 1, true);
        edges.answers(none, NONE, "ask", 0, 0, 0);
        edges.answers(none, NONE, "ask", 0, 1, 0);
        edges.answers(none, 0, "ask", 0, 0, -1);
        edges.answers(none, 100, "ask", 0, 1, -1);
        BathWater one = Texts.bath("pool 2;water 9 at 0;swimmer a manners 1 at 1;likes manners=7;");
        one.damp(1, 1, 9, true);
        edges.answers(one, 1, "ask", 9, 1, 0);
        edges.answers(one, 0, "ask", 9, 0, 0);
        // behind nine STEPS the WATER is as far as it goes: behind eight it is not
        BathWater far = Texts.bath("pool 12 flow 99;water 9 at 0;swimmer a manners 1 at 11;likes manners>49;");
        edges.answers(far, 0, "ask", 9, 0, 0);
        edges.answers(far, 50, "ask", 9, 1, 0);
        far.damp(0, 0, 9, true);
        edges.answers(far, 100, "ask", 0, 1, 0);
        edges.answers(far, 50, "ask", 1, 1, 0);
    }

    private void image() {
        edges.promise(51, "are kept in a BOX 0 .. 2: the step; NONE if there is none such");
        range(NONE, "image", row(0), 0, 0, 2);
        edges.answers(busy(), 1, "image", 1);
        edges.answers(new BathWater(), 0, "image", 0);
        edges.answers(stepped(999), 999, "image", 2);
        // no ACT: what was taken back can still be done again
        BathWater x = busy();
        x.image(1);
        edges.answers(x, 2, "about", 7);
        edges.answers(x, 1, "redo");
        edges.promise(51, "WATER, who stands where, MANNERS, how often they SWAM, the step, the SEED are kept");
        BathWater y = busy();
        y.image(1);
        String kept = scene(y);
        y.step();
        y.stand(2, 0);
        y.leave(0);
        y.teach(1, 77);
        y.pour(3, 9);
        y.back(1);
        edges.due("all as it was kept", scene(y).equals(kept), true);
        edges.answers(y, 20, "about", 11);
        edges.answers(y, 9, "about", 10);
        edges.answers(y, 2, "about", 9);
        edges.answers(y, 3, "about", 13);
    }

    private static String scene(BathWater x) {
        StringBuilder all = new StringBuilder();
        for (int spot = 0; spot < 5; spot++) {
            all.append(x.spot(spot, 0)).append(' ');
        }
        for (int who = 0; who < 3; who++) {
            all.append(x.swimmer(who, 0)).append(' ').append(x.swimmer(who, 1)).append(' ').append(x.swimmer(who, 3)).append(' ');
        }
        return all.append(x.about(5)).append(' ').append(x.about(6)).toString();
    }

    private void back() {
        edges.promise(52, "(no ACTS are kept then): the step; NONE, doing nothing, if nothing was");
        for (int box : row(-1, 1, 3, 32, 34, 256, Integer.MIN_VALUE, Integer.MAX_VALUE)) {
            quiet(NONE, "back", box);
        }
        edges.quiet(BathWater::new, NONE, "back", 0);
        BathWater x = busy();
        edges.answers(x, 1, "back", 0);
        edges.answers(x, 0, "about", 7);
        edges.answers(x, 0, "about", 8);
        edges.answers(x, 0, "undo");
        edges.answers(x, 0, "redo");
        // a box stays full, and is kept anew
        edges.answers(x, 3, "step");
        edges.answers(x, 1, "back", 0);
        x.undo();
        x.step();
        edges.answers(x, 2, "image", 0);
        edges.answers(x, 2, "back", 0);
        edges.answers(x, 1, "back", 2);
    }

    private void about() {
        edges.promise(53, "NONE for another what");
        range(NONE, "about", row(0), 0, 0, 15);
        edges.promise(53, "7: ACTS that can be undone, 8: redone, 9: what is DAMP, 10: the TIME, 11: bytes on the TAPE");
        BathWater x = busy();
        int[] abouts = {3, 5, 2, 3, 13, 1, 756, 2, 1, 2, 9, 20, 0, 3, 72, 17};
        for (int what = 0; what < abouts.length; what++) {
            edges.answers(x, abouts[what], "about", what);
        }
        // 4: all WATER may be above 999
        BathWater y = full();
        y.pour(1, 99);
        edges.answers(y, 1098, "about", 4);
    }
}

/** Promises 1 and 6 to 53, by runs whose answers were worked out by hand from the document. */
public final class PromisesTest {
    private static int passed = 0;
    private static int failed = 0;
    private static int promise = 0;

    /*
     * WATER by STEPS: 7 0 0 0 3, 5 2 0 0 3, 3 2 2 0 3, 1 2 4 0 3, 0 1 6 0 3, 0 0 7 0 3: still from there on.
     * SPOTS 0 to 3 PREFER a, 4 PREFERS b; b SWIMS at each STEP, a from the third on.
     */
    private static final String PLAIN = "pool 5 flow 2;water 7 at 0;water 3 at 4;"
        + "swimmer a manners 5 wants 4 at 2;swimmer b manners 4 at 4;";

    private static void due(String what, long got, long want) {
        if (got == want) {
            passed++;
        } else {
            failed++;
            System.out.println("promise " + promise + ": " + what + " answered " + got + ", due is " + want);
        }
    }

    private static void due(String what, boolean got, boolean want) {
        due(what, got ? 1 : 0, want ? 1 : 0);
    }

    private static BathWater plain() {
        return Texts.bath(PLAIN);
    }

    public static void main(String[] args) {
        newObject();
        look();
        acts();
        undoing();
        ahead();
        places();
        turns();
        rivals();
        others();
        sums();
        oddsOfNoGala();
        wasDamp();
        images();
        abouts();
        System.out.println("PromisesTest: " + passed + " passed, " + failed + " failed");
        if (failed != 0) {
            System.exit(1);
        }
    }

    private static void newObject() {
        promise = 1;
        BathWater x = new BathWater();
        int[] abouts = {0, 6, 9, 0, 0, 0, 0, 0, 0, 0, 0, 0, 0, 0, 0, 0, -1};
        for (int i = 0; i < abouts.length; i++) {
            due("about " + i, x.about(i), abouts[i]);
        }
        due("fault", x.fault(0), 0);
        due("place", x.fault(1), -1);
        due("undo", x.undo(), false);
        due("redo", x.redo(), false);
        due("back", x.back(0), -1);
        due("lies", x.lies(0), -1);
        due("spot 5", x.spot(5, 0), 0);
        due("NONE", BathWater.NONE, -1);
    }

    private static void look() {
        BathWater x = plain();
        promise = 6;
        int[] water = {7, 0, 0, 0, 3};
        int[] preferred = {0, 0, 0, 0, 1};
        int[] standing = {0, 0, 1, 0, 2};
        for (int i = 0; i < 5; i++) {
            due("water " + i, x.spot(i, 0), water[i]);
            due("prefers " + i, x.spot(i, 1), preferred[i]);
            due("stands " + i, x.spot(i, 2), standing[i]);
        }
        due("no spot", x.spot(5, 0), -2);
        due("no spot", x.spot(-1, 1), -2);
        due("no what", x.spot(0, 3), -2);
        due("no what", x.spot(0, -1), -2);
        due("nobody", Texts.bath("swimmer a manners 2 at 0;").spot(2, 1), -1);
        due("just liked", Texts.bath("swimmer a manners 2 at 0;").spot(1, 1), 0);
        due("of like ones the first", Texts.bath("swimmer a manners 5 at 0;swimmer b manners 5 at 2;").spot(1, 1), 0);
        due("out of it", Texts.bath("swimmer a manners 9;swimmer b manners 5 at 2;").spot(1, 1), 1);
        promise = 7;
        int[] first = {2, 5, 4, 0, 15};
        int[] second = {4, 4, 1, 0, 16};
        for (int i = 0; i < 5; i++) {
            due("first " + i, x.swimmer(0, i), first[i]);
            due("second " + i, x.swimmer(1, i), second[i]);
        }
        due("no swimmer", x.swimmer(2, 0), -2);
        due("no swimmer", x.swimmer(-1, 0), -2);
        due("no what", x.swimmer(0, 5), -2);
        due("no what", x.swimmer(0, -1), -2);
        BathWater out = Texts.bath("swimmer a manners 9;");
        due("out", out.swimmer(0, 0), -1);
        due("out", out.swimmer(0, 4), 0);
        promise = 8;
        due("liking", x.liking(0, 0), 3);
        due("liking", x.liking(1, 0), 0);
        due("liking", x.liking(1, 4), 4);
        due("none", x.liking(2, 0), -1000000000);
        due("none", x.liking(-1, 0), -1000000000);
        due("none", x.liking(0, 5), -1000000000);
        due("none", x.liking(0, -1), -1000000000);
        due("out", out.liking(0, 0), -1000000000);
        BathWater f = Texts.bath("pool 3;water 6 at 2;swimmer a manners 7 wants 2 at 2;likes 1000*swum+100*step+10*water+far;");
        due("ahead", f.liking(0, 0), 62);
        f.step();
        due("behind a step", f.liking(0, 1), 1161);
    }

    private static void acts() {
        promise = 9;
        BathWater x = plain();
        int[] who = {2, 2, 3, 3, 3, 3};
        int[] middle = {0, 2, 4, 6, 7, 7};
        for (int i = 0; i < who.length; i++) {
            due("step " + i, x.step(), who[i]);
            due("middle " + i, x.spot(2, 0), middle[i]);
        }
        due("swam", x.swimmer(0, 3), 4);
        due("swam", x.swimmer(1, 3), 6);
        due("steps", x.about(5), 6);
        BathWater gala = Texts.bath(PLAIN + "gala 72;");
        due("seed 71", gala.step(), 2);
        due("seed", gala.about(6), 71);
        due("twice as much", gala.spot(1, 0), 4);
        due("seed 798", gala.step(), 2);
        due("seed", gala.about(6), (71 * 137 + 71) % 1000);
        due("once as much", gala.spot(2, 0), 2);
        BathWater none = Texts.bath(PLAIN + "gala 71;");
        none.step();
        due("not less than gala tells", none.spot(1, 0), 2);
        due("wants nothing", Texts.bath("swimmer a manners 1 wants 0 at 3;swimmer b manners 1;").step(), 1);
        BathWater last = Texts.bath("pool 2 flow 1;water 9 at 1;swimmer a manners 5 wants 0 at 0;likes step>998;");
        for (int i = 1; i <= 999; i++) {
            due("step " + i, last.step(), 1);
        }
        due("behind the last one", last.step(), -1);
        due("steps", last.about(5), 999);
        due("what lies ahead goes on", last.will(0, 3, 0), 3);
        due("swam", last.swimmer(0, 3), 999);
        BathWater often = Texts.bath("pool 2 flow 1;water 9 at 1;swimmer a manners 5 wants 0 at 0;likes swum>998;");
        for (int i = 1; i <= 999; i++) {
            often.step();
        }
        due("999 at most", often.will(0, 3, 0), 3);
        promise = 10;
        BathWater y = plain();
        due("stands there", y.stand(0, 2), -2);
        due("no swimmer", y.stand(2, 0), -2);
        due("no swimmer", y.stand(-1, 0), -2);
        due("no spot", y.stand(0, 5), -2);
        due("no spot", y.stand(0, -1), -2);
        due("no acts", y.about(7), 0);
        due("stand", y.stand(0, 4), 2);
        due("there", y.spot(4, 2), 3);
        promise = 11;
        due("leave", y.leave(0), 4);
        due("left", y.leave(0), -1);
        due("no swimmer", y.leave(2), -1);
        due("no swimmer", y.leave(-1), -1);
        due("inside", y.about(3), 2);
        promise = 10;
        due("comes in", y.stand(0, 0), -1);
        due("acts", y.about(7), 3);
        promise = 12;
        due("nothing", y.pour(0, 0), -1);
        due("too much", y.pour(0, 100), -1);
        due("no spot", y.pour(5, 1), -1);
        due("no spot", y.pour(-1, 1), -1);
        due("acts", y.about(7), 3);
        due("pour", y.pour(0, 2), 9);
        for (int i = 1; i <= 10; i++) {
            due("pour 99", y.pour(0, 99), 9 + 99 * i);
        }
        due("above 999", y.pour(0, 1), -1);
        due("full", y.spot(0, 0), 999);
        promise = 13;
        due("nothing", y.drain(0, 0), -1);
        due("more than all", y.drain(4, 4), -1);
        due("below 0", y.drain(4, -1), -1);
        due("no spot", y.drain(5, 1), -1);
        due("no spot", y.drain(-1, 1), -1);
        due("drain", y.drain(4, 1), 2);
        due("drain all", y.drain(4, 2), 0);
        due("drain much", y.drain(0, 999), 0);
        due("dry", y.drain(0, 1), -1);
        promise = 14;
        due("the same", y.teach(0, 5), -1);
        due("above", y.teach(0, 100), -1);
        due("below", y.teach(0, -1), -1);
        due("no swimmer", y.teach(2, 5), -1);
        due("no swimmer", y.teach(-1, 5), -1);
        due("teach", y.teach(0, 99), 5);
        due("forget", y.teach(0, 0), 99);
        due("manners", y.swimmer(0, 1), 0);
        BathWater z = Texts.bath("swimmer a manners 1;");
        due("taught out of the bath", z.teach(0, 2), 1);
    }

    private static void undoing() {
        promise = 15;
        BathWater x = Texts.bath(PLAIN + "draw 5;gala 100;");
        x.step();
        x.stand(1, 0);
        x.leave(0);
        x.pour(3, 9);
        x.drain(4, 1);
        x.teach(0, 77);
        due("acts", x.about(7), 6);
        due("undo teach", x.undo(), true);
        due("manners", x.swimmer(0, 1), 5);
        due("undo drain", x.undo(), true);
        due("water", x.spot(4, 0), 3);
        due("undo pour", x.undo(), true);
        due("water", x.spot(3, 0), 0);
        due("undo leave", x.undo(), true);
        due("in", x.swimmer(0, 0), 2);
        due("undo stand", x.undo(), true);
        due("at", x.swimmer(1, 0), 4);
        due("seed ahead", x.about(6), 756);
        due("undo step", x.undo(), true);
        due("seed", x.about(6), 5);
        due("step", x.about(5), 0);
        due("water", x.spot(0, 0), 7);
        due("swam", x.swimmer(1, 3), 0);
        due("none left", x.undo(), false);
        due("redoable", x.about(8), 6);
        promise = 16;
        due("redo step", x.redo(), true);
        due("seed", x.about(6), 756);
        due("swam", x.swimmer(1, 3), 1);
        due("water", x.spot(0, 0), 3);
        due("redo stand", x.redo(), true);
        due("at", x.swimmer(1, 0), 0);
        due("what does nothing leaves it", x.stand(1, 0), -2);
        due("nor does an image", x.image(0), 1);
        due("redo leave", x.redo(), true);
        due("redo pour", x.redo(), true);
        due("redo drain", x.redo(), true);
        due("redo teach", x.redo(), true);
        due("manners", x.swimmer(0, 1), 77);
        due("none left", x.redo(), false);
        due("undo", x.undo(), true);
        due("another act", x.pour(0, 1), 4);
        due("none", x.redo(), false);
        due("redoable", x.about(8), 0);
        promise = 15;
        BathWater y = plain();
        for (int i = 1; i <= 45; i++) {
            y.pour(1, 1);
        }
        due("kept", y.about(7), 40);
        for (int i = 0; i < 40; i++) {
            due("undo " + i, y.undo(), true);
        }
        due("the oldest are gone", y.undo(), false);
        due("water", y.spot(1, 0), 5);
        for (int i = 0; i < 40; i++) {
            due("redo " + i, y.redo(), true);
        }
        due("all done again", y.redo(), false);
        due("water", y.spot(1, 0), 45);
        y.undo();
        y.pour(2, 1);
        due("kept", y.about(7), 40);
        y.pour(2, 1);
        due("kept", y.about(7), 40);
    }

    private static void ahead() {
        BathWater x = plain();
        promise = 17;
        int[] middle = {0, 0, 2, 4, 6, 7, 7};
        for (int i = 0; i < middle.length; i++) {
            due("will " + i, x.will(2, i, 0), middle[i]);
        }
        due("far ahead", x.will(2, 60, 0), 7);
        due("too far", x.will(2, 61, 0), -1);
        due("behind", x.will(2, -1, 0), -1);
        due("no spot", x.will(5, 1, 0), -1);
        due("no spot", x.will(-1, 1, 0), -1);
        due("no what", x.will(0, 1, 2), -1);
        due("no what", x.will(0, 1, -1), -1);
        BathWater gala = Texts.bath(PLAIN + "gala 72;");
        due("no gala", gala.will(1, 1, 0), 2);
        due("gala", gala.will(1, 1, 1), 4);
        due("gala, then none", gala.will(2, 2, 1), 2);
        due("nothing is done", gala.about(5) + gala.about(6), 0);
        promise = 18;
        due("swims", x.swims(0, 5), 3);
        due("swims", x.swims(1, 5), 5);
        due("none", x.swims(0, 0), 0);
        due("most", x.swims(1, 60), 60);
        due("too far", x.swims(0, 61), -1);
        due("behind", x.swims(0, -1), -1);
        due("no swimmer", x.swims(2, 1), -1);
        due("no swimmer", x.swims(-1, 1), -1);
        x.step();
        due("from now on", x.swims(1, 2), 2);
        x.undo();
        promise = 19;
        due("still", x.still(), 5);
        x.step();
        due("still", x.still(), 4);
        x.undo();
        due("without water", new BathWater().still(), 0);
        String swaps = "pool 2;water 5 at 0;water 5 at 1;swimmer a manners 9 at 0;swimmer b manners 9 at 1;likes far+1;";
        due("water that changes places goes", Texts.bath(swaps).still(), -1);
        due("late", Texts.bath("pool 2;water 5 at 0;swimmer a manners 9 at 1;likes step>59;").still(), 0);
        String later = "pool 2 flow 1;water 61 at 0;swimmer a manners 9 at 1;";
        due("behind 61", Texts.bath("pool 2 flow 1;water 60 at 0;swimmer a manners 9 at 1;").still(), 60);
        due("not within", Texts.bath(later).still(), -1);
        promise = 23;
        due("who", x.race(1, 0), 1);
        due("when", x.race(1, 1), 1);
        due("when", x.race(20, 1), 20);
        due("none", x.race(0, 0), -1);
        due("too often", x.race(21, 0), -1);
        due("no what", x.race(1, 2), -1);
        due("no what", x.race(1, -1), -1);
        due("nobody", Texts.bath("swimmer a manners 5 at 0;").race(1, 0), -1);
        due("behind 60", Texts.bath("pool 2 flow 1;water 60 at 1;swimmer a manners 9 wants 60 at 0;").race(1, 1), 60);
        due("behind 61", Texts.bath("pool 2 flow 1;water 61 at 1;swimmer a manners 9 wants 61 at 0;").race(1, 1), -1);
        due("of like ones the first", Texts.bath("swimmer a manners 5 wants 0 at 0;swimmer b manners 6 wants 0 at 1;").race(3, 0), 0);
        promise = 34;
        due("now", x.flood(0, 7), 0);
        due("nothing", x.flood(2, 0), 0);
        due("in three", x.flood(2, 4), 3);
        due("in five", x.flood(2, 7), 5);
        due("never", x.flood(2, 8), -1);
        due("too much", x.flood(2, 1000), -1);
        due("below 0", x.flood(2, -1), -1);
        due("no spot", x.flood(5, 1), -1);
        due("no spot", x.flood(-1, 1), -1);
        due("behind 60", Texts.bath("pool 2 flow 1;water 61 at 0;swimmer a manners 9 at 1;").flood(1, 60), 60);
        due("behind 61", Texts.bath("pool 2 flow 1;water 61 at 0;swimmer a manners 9 at 1;").flood(1, 61), -1);
        promise = 41;
        due("now", x.tide(0, 5), 7);
        due("on its way", x.tide(1, 5), 2);
        due("none yet", x.tide(1, 0), 0);
        due("last", x.tide(2, 4), 6);
        due("too far", x.tide(2, 61), -1);
        due("behind", x.tide(2, -1), -1);
        due("no spot", x.tide(5, 1), -1);
        due("no spot", x.tide(-1, 1), -1);
    }

    private static void places() {
        BathWater x = plain();
        promise = 20;
        due("lure", x.lure(0, 5, 0), 3);
        due("lured", x.lure(0, 5, 1), 9);
        due("at once", x.lure(1, 0, 0), 0);
        due("at once", x.lure(1, 0, 1), 7);
        due("far", x.lure(0, 20, 1), 10);
        due("too far", x.lure(0, 21, 0), -1);
        due("behind", x.lure(0, -1, 0), -1);
        due("no what", x.lure(0, 1, 2), -1);
        due("no what", x.lure(0, 1, -1), -1);
        due("no swimmer", x.lure(2, 1, 0), -1);
        due("no swimmer", x.lure(-1, 1, 0), -1);
        x.leave(0);
        due("one who is out", x.lure(0, 5, 1), 9);
        due("he stays out", x.swimmer(0, 0), -1);
        x.undo();
        promise = 21;
        due("first", x.both(0, 1, 2, 0), 0);
        due("other", x.both(0, 1, 2, 1), 0);
        due("together", x.both(0, 1, 2, 2), 4);
        String apart = "pool 3;water 4 at 0;water 5 at 2;swimmer a manners 0 wants 5;swimmer b manners 0 wants 4;";
        due("first", Texts.bath(apart).both(0, 1, 3, 0), 2);
        due("other", Texts.bath(apart).both(0, 1, 3, 1), 0);
        due("together", Texts.bath(apart).both(0, 1, 3, 2), 6);
        due("the other way round", Texts.bath(apart).both(1, 0, 3, 0), 0);
        due("the other way round", Texts.bath(apart).both(1, 0, 3, 1), 2);
        due("most steps", x.both(0, 1, 10, 2), 20);
        due("one", x.both(1, 1, 2, 0), -1);
        due("no steps", x.both(0, 1, 0, 0), -1);
        due("too far", x.both(0, 1, 11, 0), -1);
        due("no swimmer", x.both(0, 2, 1, 0), -1);
        due("no swimmer", x.both(-1, 0, 1, 0), -1);
        due("no what", x.both(0, 1, 1, 3), -1);
        due("no what", x.both(0, 1, 1, -1), -1);
        promise = 24;
        due("above", x.court(1, 0), 8);
        due("as much, being the first", x.court(0, 4), 6);
        due("near", x.court(0, 2), 2);
        due("no swimmer", x.court(2, 0), -1);
        due("no swimmer", x.court(-1, 0), -1);
        due("no spot", x.court(0, 5), -1);
        due("no spot", x.court(0, -1), -1);
        due("out", Texts.bath("swimmer a manners 5;").court(0, 0), -1);
        due("none is enough", Texts.bath("swimmer a manners 5 at 0;likes 0-manners;").court(0, 0), -1);
        due("99 is enough", Texts.bath("swimmer a manners 5 at 0;likes manners>98;").court(0, 0), 99);
        due("99 is not enough", Texts.bath("swimmer a manners 5 at 0;likes manners>99;").court(0, 0), -1);
        due("less would do", Texts.bath("swimmer a manners 5 at 0;likes 3-manners;").court(0, 0), 0);
    }

    private static void turns() {
        promise = 22;
        BathWater x = plain();
        due("orders", x.orders(1), 2);
        due("first", x.lies(0), 0);
        due("second", x.lies(1), 1);
        promise = 44;
        due("no third", x.lies(2), -1);
        due("no such", x.lies(-1), -1);
        promise = 22;
        BathWater y = Texts.bath("pool 2;water 5 at 1;swimmer a manners 0 wants 5;swimmer b manners 9;");
        due("he who draws first", y.orders(1), 2);
        due("first", y.lies(0), 1);
        due("second", y.lies(1), 0);
        due("longer", y.orders(3), 6);
        due("no number", y.orders(0), -1);
        due("nothing lies", y.about(13), 0);
        due("nothing lies", y.lies(0), -1);
        due("no number", y.orders(4), -1);
        due("nobody", new BathWater().orders(1), -1);
        StringBuilder five = new StringBuilder();
        for (int i = 0; i < 5; i++) {
            five.append("swimmer s").append((char) ('a' + i)).append(" manners 1 wants ").append(i == 4 ? 0 : 1).append(";");
        }
        BathWater z = Texts.bath(five.toString());
        due("five", z.orders(2), 2);
        for (int i = 0; i < 5; i++) {
            due("of like ones the first", z.lies(i), i);
        }
        // one more at SPOT 0 at each turn: the last one told must have it first, and so on
        BathWater v = Texts.bath("pool 2 flow 1;water 9 at 1;swimmer a manners 9 wants 5;swimmer b manners 9 wants 4;"
            + "swimmer c manners 9 wants 3;swimmer d manners 9 wants 2;swimmer e manners 9 wants 1;");
        due("the last order", v.orders(1), 5);
        for (int i = 0; i < 5; i++) {
            due("the last order", v.lies(i), 4 - i);
        }
        BathWater w = Texts.bath("pool 2 flow 1;water 9 at 0;swimmer a manners 9 wants 9;swimmer b manners 9 wants 9;"
            + "swimmer c manners 9 wants 9;likes wants;");
        due("all stay", w.orders(2), 6);
    }

    private static void rivals() {
        promise = 25;
        String middle = "pool 3;water 9 at 1;swimmer a manners %d at 0;swimmer b manners %d at 2;";
        BathWater x = Texts.bath(String.format(middle, 5, 5));
        due("no rest", x.duel(0, 1, 1), 0);
        due("nothing lies", x.about(13), 0);
        BathWater y = Texts.bath(String.format(middle, 99, 95));
        due("nobody can", y.duel(0, 1, 1), 1);
        due("none made", y.lies(0), 0);
        due("none made", y.lies(1), 0);
        due("two lie", y.about(13), 2);
        due("one", y.duel(0, 0, 1), -1);
        due("nothing lies", y.about(13), 0);
        due("no steps", y.duel(0, 1, 0), -1);
        due("too far", y.duel(0, 1, 11), -1);
        due("no swimmer", y.duel(0, 2, 1), -1);
        due("no swimmer", y.duel(-1, 0, 1), -1);
        due("99 at most", Texts.bath(String.format(middle, 97, 97)).duel(0, 1, 1), 0);
        due("99 can be", Texts.bath(String.format(middle, 98, 98)).duel(0, 1, 1), 0);
        due("100 can't", Texts.bath(String.format(middle, 99, 99)).duel(0, 1, 1), 1);
        due("the other wins", Texts.bath(String.format(middle, 90, 96)).duel(0, 1, 1), 1);
        BathWater z = Texts.bath("water 9 at 2;swimmer a manners 1 at 0;swimmer b manners 0 at 5;swimmer c manners 9;");
        due("one makes more", z.duel(0, 1, 2), 1);
        due("his", z.lies(0), 2);
        due("the other one's", z.lies(1), 0);
        due("the other way round", z.duel(1, 0, 2), 1);
        due("the other one's", z.lies(0), 0);
        due("his", z.lies(1), 2);
        due("out", z.duel(0, 2, 2), -1);
        due("out", z.duel(2, 0, 2), -1);
        promise = 26;
        BathWater p = plain();
        due("no loss", p.loss(0, 5), 0);
        due("a gain", p.loss(1, 5), -1);
        due("none yet", p.loss(1, 0), 0);
        due("too far", p.loss(1, 61), -1000000);
        due("behind", p.loss(1, -1), -1000000);
        due("no swimmer", p.loss(2, 1), -1000000);
        due("no swimmer", p.loss(-1, 1), -1000000);
        p.leave(1);
        due("out", p.loss(1, 5), -1000000);
        due("a loss", Texts.bath("pool 3;water 9 at 1;swimmer a manners 9 wants 50 at 0;swimmer b manners 0 at 0;").loss(0, 4), 4);
        promise = 27;
        BathWater q = plain();
        due("earn", q.earn(0, 5, 4), 6);
        due("less", q.earn(0, 5, 3), 3);
        due("never", q.earn(0, 5, 5), -1);
        due("nothing", q.earn(0, 5, 0), 0);
        due("none in none", q.earn(0, 0, 0), 0);
        due("none in none", q.earn(0, 0, 1), -1);
        due("too often", q.earn(0, 60, 61), -1);
        String shy = "pool 2;water 5 at 1;swimmer a manners 5 at 0;likes manners>";
        due("99 is enough", Texts.bath(shy + "98;").earn(0, 60, 60), 99);
        due("99 is not enough", Texts.bath(shy + "99;").earn(0, 60, 60), -1);
        due("below 0", q.earn(0, 5, -1), -1);
        due("too far", q.earn(0, 61, 1), -1);
        due("behind", q.earn(0, -1, 0), -1);
        due("no swimmer", q.earn(2, 5, 0), -1);
        due("no swimmer", q.earn(-1, 5, 0), -1);
        due("out", Texts.bath("swimmer a manners 5 wants 0;").earn(0, 5, 1), -1);
        due("out", Texts.bath("swimmer a manners 5 wants 0;").earn(0, 5, 0), 0);
        promise = 28;
        due("alone", q.alone(0, 5), 4);
        due("alone", q.alone(1, 5), 5);
        due("none", q.alone(0, 0), 0);
        due("out", Texts.bath("swimmer a manners 5 wants 0;").alone(0, 5), 0);
        due("too far", q.alone(0, 61), -1);
        due("behind", q.alone(0, -1), -1);
        due("no swimmer", q.alone(2, 1), -1);
        due("no swimmer", q.alone(-1, 1), -1);
        promise = 29;
        due("leader", q.leader(5), 1);
        due("of like ones the first", q.leader(0), 0);
        due("too far", q.leader(61), -1);
        due("behind", q.leader(-1), -1);
        due("nobody", new BathWater().leader(5), -1);
    }

    private static void others() {
        BathWater x = plain();
        promise = 30;
        due("plug", x.plug(5, 0), 0);
        due("plugged", x.plug(5, 1), 5);
        due("too far", x.plug(61, 0), -1);
        due("behind", x.plug(-1, 0), -1);
        due("no what", x.plug(5, 2), -1);
        due("no what", x.plug(5, -1), -1);
        due("no water", Texts.bath("swimmer a manners 5 wants 0 at 1;").plug(5, 0), -1);
        due("no water", Texts.bath("swimmer a manners 5 wants 0 at 1;").plug(5, 1), -1);
        due("wet spots alone", Texts.bath("water 1 at 4;swimmer a manners 5 wants 0 at 1;").plug(5, 0), 4);
        promise = 31;
        due("fill", x.fill(5, 9, 0), 2);
        due("filled", x.fill(5, 9, 1), 10);
        due("of like ones the first", x.fill(0, 9, 0), 0);
        due("none", x.fill(0, 9, 1), 0);
        due("nothing", x.fill(5, 0, 0), -1);
        due("too much", x.fill(5, 100, 0), -1);
        due("too far", x.fill(61, 9, 0), -1);
        due("behind", x.fill(-1, 9, 0), -1);
        due("no what", x.fill(5, 9, 2), -1);
        due("no what", x.fill(5, 9, -1), -1);
        promise = 32;
        due("no better", x.exchange(5, 0), -1);
        String wrongWay = "pool 3;water 9 at 0;water 2 at 2;swimmer z manners 0 wants 50 at 1;swimmer a manners 0 wants 9 at 2;"
            + "swimmer b manners 0 wants 2 at 0;swimmer c manners 0 wants 0;";
        BathWater y = Texts.bath(wrongWay);
        due("first", y.exchange(4, 0), 1);
        due("other", y.exchange(4, 1), 2);
        due("how often", y.exchange(4, 2), 8);
        due("none in none", y.exchange(0, 0), -1);
        due("too far", y.exchange(61, 0), -1);
        due("behind", y.exchange(-1, 0), -1);
        due("no what", y.exchange(4, 3), -1);
        due("no what", y.exchange(4, -1), -1);
        due("nobody", new BathWater().exchange(4, 2), -1);
        promise = 33;
        due("all swim", x.thin(5, 0), 0);
        due("nobody leaves", x.thin(5, 1), 0);
        due("one leaves", x.thin(2, 0), 1);
        due("the least set", x.thin(2, 1), 1);
        due("all leave", x.thin(0, 0), 2);
        due("all leave", x.thin(0, 1), 3);
        due("too far", x.thin(61, 0), -1);
        due("behind", x.thin(-1, 0), -1);
        due("no what", x.thin(5, 2), -1);
        due("no what", x.thin(5, -1), -1);
        due("who is out need not leave", Texts.bath("swimmer a manners 5;swimmer b manners 5 at 0;").thin(5, 1), 2);
        promise = 40;
        due("none yet", x.dry(0), 3);
        due("one", x.dry(2), 1);
        due("nobody", x.dry(3), 0);
        due("who is out is not counted", Texts.bath("swimmer a manners 5;swimmer b manners 5 at 0;").dry(5), 2);
        due("too far", x.dry(61), -1);
        due("behind", x.dry(-1), -1);
        promise = 42;
        due("well mannered", x.law(5, 9), 8);
        due("not at all", x.law(5, 0), 5);
        due("none", x.law(0, 9), 0);
        due("too far", x.law(61, 9), -1);
        due("behind", x.law(-1, 9), -1);
        due("above", x.law(5, 100), -1);
        due("below", x.law(5, -1), -1);
        due("nobody", new BathWater().law(5, 9), 0);
        due("manners stay", x.swimmer(0, 1), 5);
    }

    private static void sums() {
        BathWater x = plain();
        promise = 35;
        due("all", x.between(0, 4), 10);
        due("the other way round", x.between(4, 0), 10);
        due("some", x.between(1, 4), 3);
        due("one", x.between(4, 4), 3);
        due("no spot", x.between(0, 5), -1);
        due("no spot", x.between(-1, 3), -1);
        promise = 36;
        due("spread", x.spread(), 5);
        due("without", new BathWater().spread(), 0);
        x.drain(0, 7);
        due("one spot", x.spread(), 1);
        x.undo();
        promise = 37;
        due("drawn", x.drawn(), 31);
        due("some", Texts.bath("swimmer a manners 2 at 0;").drawn(), 3);
        due("nobody", new BathWater().drawn(), 0);
        promise = 38;
        due("deepest", x.deepest(), 0);
        due("of like ones the first", Texts.bath("water 3 at 4;water 3 at 2;").deepest(), 2);
        due("without", new BathWater().deepest(), 0);
        promise = 39;
        due("darling", x.darling(), 0);
        x.teach(1, 99);
        due("another", x.darling(), 1);
        due("nobody", Texts.bath("swimmer a manners 2;").darling(), -1);
        due("not liked, but in it", Texts.bath("swimmer a manners 2;swimmer b manners 0 at 0;").darling(), 1);
        due("of like ones the first", Texts.bath("pool 2;swimmer a manners 2 at 1;swimmer b manners 2 at 0;").darling(), 0);
    }

    private static void odds(int gala, int n, int upper, int lower) {
        BathWater x = Texts.bath("draw 17;gala " + gala + ";");
        due("upper part of " + gala + " in " + n, x.odds(n, 0), upper);
        due("lower part of " + gala + " in " + n, x.odds(n, 1), lower);
    }

    private static void oddsOfNoGala() {
        promise = 43;
        odds(30, 0, 1, 1);
        odds(30, 1, 7, 10);
        odds(30, 2, 49, 100);
        odds(30, 4, 2401, 10000);
        odds(50, 2, 1, 4);
        odds(1, 4, 96059601, 100000000);
        odds(98, 4, 1, 6250000);
        odds(0, 4, 1, 1);
        odds(100, 0, 1, 1);
        odds(100, 1, 0, 1);
        odds(100, 4, 0, 1);
        odds(30, 5, -1, -1);
        odds(30, -1, -1, -1);
        due("no part", new BathWater().odds(1, 2), -1);
        due("no part", new BathWater().odds(1, -1), -1);
    }

    private static void wasDamp() {
        // b at 2 draws the 9 from 1 if his MANNERS are 6 at least; a at 0 does by 5
        BathWater x = Texts.bath("pool 3 flow 4;water 9 at 1;swimmer a manners 5 at 0;swimmer b manners 3 at 2;");
        promise = 48;
        due("all", x.fits(0), 100);
        due("all", x.fits(-5), 100);
        promise = 45;
        due("steps", x.damp(10, 0, 0, true), -1);
        due("steps", x.damp(-1, 0, 0, true), -1);
        due("spot", x.damp(0, 3, 0, true), -1);
        due("spot", x.damp(0, -1, 0, true), -1);
        due("water", x.damp(0, 0, 1000, true), -1);
        due("water", x.damp(0, 0, -1, true), -1);
        due("nobody", new BathWater().damp(0, 0, 0, true), -1);
        promise = 47;
        due("later", x.later(10), 10);
        due("now", x.later(0), 10);
        due("before", x.later(-1), -1);
        due("too late", x.later(1001), -1);
        promise = 45;
        due("damp", x.damp(1, 2, 4, true), 0);
        promise = 48;
        due("six at least", x.fits(10), 94);
        due("not yet told", x.fits(9), 100);
        due("told for good", x.fits(1000000), 94);
        promise = 49;
        due("least", x.sure(0, 10), 6);
        due("greatest", x.sure(1, 10), 99);
        due("no what", x.sure(2, 10), -1);
        due("no what", x.sure(-1, 10), -1);
        promise = 46;
        x.later(5);
        due("untell", x.untell(0), true);
        due("again", x.untell(0), false);
        due("none such", x.untell(1), false);
        due("none such", x.untell(-1), false);
        promise = 48;
        due("as known before", x.fits(14), 94);
        due("as known then", x.fits(15), 100);
        promise = 45;
        due("the number goes on", x.damp(1, 2, 4, false), 1);
        promise = 48;
        due("five at most", x.fits(15), 6);
        promise = 49;
        due("least", x.sure(0, 15), 0);
        due("greatest", x.sure(1, 15), 5);
        promise = 48;
        x.step();
        x.teach(1, 50);
        x.leave(0);
        due("of the bath as it was told", x.fits(15), 6);
        promise = 50;
        due("spot", x.ask(1, 0, 15), 0);
        due("left", x.ask(1, 1, 15), 6);
        due("all", x.ask(1, 0, 0), 0);
        due("all", x.ask(1, 1, 0), 94);
        due("steps", x.ask(10, 0, 0), -1);
        due("steps", x.ask(-1, 0, 0), -1);
        due("no what", x.ask(1, 2, 0), -1);
        due("no what", x.ask(1, -1, 0), -1);
        due("nobody", new BathWater().ask(1, 0, 0), -1);
        promise = 45;
        due("more than there is", x.damp(0, 1, 10, true), 2);
        promise = 48;
        due("none fits", x.fits(15), 0);
        promise = 49;
        due("none fits", x.sure(0, 15), -1);
        due("none fits", x.sure(1, 15), -1);
        promise = 50;
        due("none fits", x.ask(1, 0, 15), -1);
        promise = 45;
        for (int i = 3; i < 30; i++) {
            due("damp " + i, x.damp(0, 0, 0, true), i);
        }
        due("thirty", x.damp(0, 0, 0, true), -1);
        due("untold ones are there", x.untell(29), true);
        due("thirty", x.damp(0, 0, 0, true), -1);
        promise = 50;
        // WATER at 1 tells two sorts of MANNERS apart, at 0 or 2 as many; at 3 none
        BathWater y = Texts.bath("pool 5 flow 9;water 9 at 3;swimmer a manners 50 at 1;swimmer b manners 0 at 4;");
        due("spot", y.ask(1, 0, 0), 2);
        due("left", y.ask(1, 1, 0), 50);
        due("nothing is known by now", y.ask(0, 1, 0), 100);
        promise = 47;
        BathWater z = new BathWater();
        for (int i = 1; i <= 100; i++) {
            due("later", z.later(1000), 1000 * i);
        }
        due("too late", z.later(1), -1);
        due("not later", z.later(0), 100000);
        promise = 48;
        due("without swimmers", z.fits(0), 0);
        promise = 49;
        due("without swimmers", z.sure(0, 0), -1);
        BathWater shy = Texts.bath("pool 2;water 5 at 1;swimmer a manners 5 at 0;likes manners>98;");
        shy.damp(1, 0, 5, true);
        due("99 alone", shy.sure(0, 0), 99);
        due("99 alone", shy.sure(1, 0), 99);
        BathWater rude = Texts.bath("pool 2;water 5 at 1;swimmer a manners 5 at 0;likes manners<1;");
        rude.damp(9, 0, 5, true);
        due("0 alone", rude.sure(0, 0), 0);
        due("0 alone", rude.sure(1, 0), 0);
        due("one is left", rude.ask(9, 1, 0), 1);
    }

    private static void images() {
        promise = 51;
        BathWater x = Texts.bath(PLAIN + "gala 100;draw 3;");
        due("box", x.image(3), -1);
        due("box", x.image(-1), -1);
        x.step();
        due("image", x.image(2), 1);
        due("no act", x.about(7), 1);
        x.step();
        x.stand(0, 0);
        x.leave(1);
        x.teach(0, 1);
        x.pour(3, 7);
        due("another", x.image(0), 2);
        promise = 52;
        due("empty", x.back(1), -1);
        due("none such", x.back(3), -1);
        due("none such", x.back(-1), -1);
        due("acts stay", x.about(7), 6);
        x.undo();
        due("back", x.back(2), 1);
        due("no undo", x.undo(), false);
        due("no redo", x.redo(), false);
        due("step", x.about(5), 1);
        due("seed", x.about(6), (3 * 137 + 71) % 1000);
        due("manners", x.swimmer(0, 1), 5);
        due("place", x.swimmer(0, 0), 2);
        due("place", x.swimmer(1, 0), 4);
        due("swam", x.swimmer(1, 3), 1);
        due("water", x.spot(1, 0), 4);
        due("water", x.spot(3, 0), 0);
        due("gone on from", x.step(), 3);
        due("acts", x.about(7), 1);
        due("again", x.back(2), 1);
        due("the other", x.back(0), 2);
        due("place", x.swimmer(0, 0), 0);
        due("water", x.spot(3, 0), 7);
        promise = 51;
        due("kept anew", x.image(2), 2);
        due("kept anew", x.back(2), 2);
    }

    private static void abouts() {
        promise = 53;
        BathWater x = Texts.bath("pool 7 flow 3;water 5 at 1;water 0 at 6;swimmer a manners 9 at 1;swimmer b manners 9;"
            + "swimmer c manners 9 at 0;likes (far)+1;gala 12;draw 34;");
        x.pour(0, 2);
        x.pour(0, 2);
        x.undo();
        x.later(4);
        x.damp(0, 0, 0, true);
        x.damp(0, 0, 0, true);
        x.untell(0);
        x.orders(1);
        x.feed(1, 2, 3, 4, 5);
        x.end(3);
        int[] abouts = {3, 7, 3, 5, 7, 0, 34, 1, 1, 2, 4, 3, 3, 3, 12, 66};
        for (int i = 0; i < abouts.length; i++) {
            due("about " + i, x.about(i), abouts[i]);
        }
        due("no what", x.about(16), -1);
        due("no what", x.about(-1), -1);
        x.step();
        due("step", x.about(5), 1);
    }
}

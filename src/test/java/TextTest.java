/** Promises 2 to 5: the TAPE, what a BATH is, and its FAULTS with their places. */
public final class TextTest {
    private static int passed = 0;
    private static int failed = 0;

    private static void due(String what, long got, long want) {
        if (got == want) {
            passed++;
        } else {
            failed++;
            System.out.println(what + " answered " + got + ", due is " + want);
        }
    }

    public static void main(String[] args) {
        tape();
        goodTexts();
        tokens();
        lines();
        limits();
        formulas();
        values();
        anew();
        System.out.println("TextTest: " + passed + " passed, " + failed + " failed");
        if (failed != 0) {
            System.exit(1);
        }
    }

    /** The FAULT of a text and its place. */
    private static void fault(String text, int fault, int place) {
        BathWater x = Texts.bath(text);
        due("fault(0) of <" + text + ">", x.fault(0), fault);
        due("fault(1) of <" + text + ">", x.fault(1), place);
        due("bytes behind <" + text + ">", x.about(11), fault == 0 ? 0 : text.length());
    }

    private static void good(String text) {
        fault(text, 0, -1);
    }

    /** A FAULT at the sign @, which is not of the text. */
    private static void faultAt(String text, int fault) {
        int place = text.indexOf('@');
        fault(text.substring(0, place) + text.substring(place + 1), fault, place);
    }

    private static void tape() {
        BathWater x = new BathWater();
        due("feed", x.feed(0, 0, 0, 0, 0), 20);
        due("end(21)", x.end(21), -1);
        due("end(-1)", x.end(-1), -1);
        due("end(min)", x.end(Integer.MIN_VALUE), -1);
        due("about(11)", x.about(11), 20);
        due("end(20)", x.end(20), 20);
        due("end(7)", x.end(7), 7);
        due("end(8)", x.end(8), -1);
        due("end(0)", x.end(0), 0);
        for (int i = 1; i <= 80; i++) {
            due("feed " + i, x.feed(0x20202020, 0x0a0a0a0a, 0x20202020, 0x20202020, 0x20202020), 20 * i);
        }
        due("feed 81", x.feed(1, 2, 3, 4, 5), -1);
        due("about(11)", x.about(11), 1600);
        due("end(1581)", x.end(1581), 1581);
        due("feed at 1581", x.feed(1, 2, 3, 4, 5), -1);
        due("end(1580)", x.end(1580), 1580);
        due("feed at 1580", x.feed(0x20202020, 0x20202020, 0x20202020, 0x20202020, 0x20202020), 1600);
        due("bath of blanks", x.bath(), 0);
        due("tape behind bath", x.about(11), 0);
        // "pool 4;             ": of each number the highest byte comes first
        due("feed pool", x.feed(0x706f6f6c, 0x20343b20, 0x20202020, 0x20202020, 0x20202020), 20);
        due("bath pool", x.bath(), 0);
        due("spots", x.about(1), 4);
    }

    private static void goodTexts() {
        good("");
        good(" \n ");
        good("pool 1;");
        good("pool 12 flow 99;");
        good("pool12 flow1;");
        good("pool\n0006\nflow 0001\n;");
        good("water 0 at 5;water 99 at 0;");
        good("swimmer a manners 0;");
        good("swimmer abcdefgh manners 99 wants 99 at 5;");
        good("swimmer a manners 1 at 0;swimmer b manners 1 at 0;");
        good("swimmer e manners 1;swimmer both manners 1;swimmer bath manners 1;swimmer one manners 1;swimmer unit manners 1;");
        good("gala 0;draw 0;");
        good("draw 999;gala 100;likes 1;");
        good("likes 9999;");
    }

    private static void tokens() {
        faultAt("@Pool 6;", 1);
        faultAt("pool 6@,", 1);
        faultAt("pool 6@\t;", 1);
        faultAt("pool 6;@" + (char) 0, 1);
        faultAt("pool 6;@" + (char) 255, 1);
        faultAt("pool 6;@" + (char) 13, 1);
        faultAt("@_", 1);
        faultAt("@swimmers a manners 1;", 2);
        faultAt("@swimmerss a manners 1;", 1);
        faultAt("swimmer @abcdefghi manners 1;", 1);
        faultAt("pool @00006;", 1);
        faultAt("pool @6x;", 1);
        faultAt("pool @99x;", 1);
        faultAt("swimmer a manners @1at 2;", 1);
        faultAt("swimmer a@1;", 2);
        faultAt("pool 6@?;", 1);
        // the first by its place, whatever it is
        faultAt("pool @13;?", 4);
        faultAt("@pol 6;?", 2);
        faultAt("pool 6;@?13", 1);
    }

    private static void lines() {
        faultAt("@;", 2);
        faultAt("@7;", 2);
        faultAt("@bob;", 2);
        faultAt("@flow 7;", 2);
        faultAt("pool 6;@;", 2);
        faultAt("pool@;", 2);
        faultAt("pool 6@", 2);
        faultAt("pool 6   @", 2);
        faultAt("pool@", 2);
        faultAt("pool 6 flow@;", 2);
        faultAt("pool 6 @water 1 at 1;", 2);
        faultAt("pool @0;", 4);
        faultAt("pool @13;", 4);
        faultAt("pool 6 flow @0;", 4);
        faultAt("pool 6 flow @100;", 4);
        faultAt("pool 6;@pool 6;", 2);
        faultAt("gala 3;@pool 6;", 2);
        faultAt("water @100 at 0;", 4);
        faultAt("water 1 @0;", 2);
        faultAt("water 1 at @6;", 4);
        faultAt("pool 3;water 1 at @3;", 4);
        faultAt("water 1 at @at;", 2);
        faultAt("water 5 at 2;water 6 at @2;", 3);
        faultAt("water 0 at 2;water 6 at @0002;", 3);
        faultAt("water 5 at 2;water @100 at 2;", 4);
        faultAt("swimmer @7 manners 1;", 2);
        faultAt("swimmer a @7;", 2);
        faultAt("swimmer a manners @100;", 4);
        faultAt("swimmer a manners 1 wants @100;", 4);
        faultAt("swimmer a manners 1 at @6;", 4);
        faultAt("swimmer a manners 1 at 0 @wants 2;", 2);
        faultAt("swimmer a manners 1;swimmer @a manners 2;", 3);
        faultAt("swimmer a manners 1;swimmer b manners 1;swimmer @a;", 3);
        String[] words = {"pool", "flow", "water", "at", "swimmer", "manners", "wants", "likes", "gala", "draw", "or", "and",
            "not", "far", "swum", "step"};
        for (String word : words) {
            faultAt("swimmer @" + word + " manners 1;", 2);
        }
        faultAt("gala @101;", 4);
        faultAt("draw @1000;", 4);
        faultAt("gala 1;@gala 1;", 2);
        faultAt("draw 1;@draw 1;", 2);
        faultAt("likes 1;@likes 1;", 2);
        faultAt("gala 5@", 2);
    }

    private static void limits() {
        StringBuilder waters = new StringBuilder("pool 12;");
        for (int i = 0; i < 12; i++) {
            waters.append("water 1 at ").append(i).append(';');
        }
        good(waters.toString());
        faultAt(waters + "@water 1 at 0;", 2);
        StringBuilder swimmers = new StringBuilder();
        for (int i = 0; i < 5; i++) {
            swimmers.append("swimmer ").append((char) ('a' + i)).append(" manners 1;");
        }
        good(swimmers.toString());
        faultAt(swimmers + "@swimmer a manners 1;", 2);
        good("likes " + "1+".repeat(29) + "1;");
        faultAt("likes " + "1+".repeat(30) + "@1;", 2);
        faultAt("likes " + "1+".repeat(30) + "@(1);", 2);
        good("likes " + "1+".repeat(28) + "(1);");
        faultAt("likes " + "1+".repeat(29) + "(@1);", 2);
        faultAt("likes " + "1+".repeat(30) + "@;", 2);
        faultAt("likes " + "1+".repeat(30) + "@?;", 1);
        due("units", Texts.bath("likes " + "1+".repeat(28) + "(1);").about(12), 30);
        good("likes " + "(".repeat(7) + "1" + ")".repeat(7) + ";");
        faultAt("likes " + "(".repeat(7) + "@(1" + ")".repeat(8) + ";", 2);
        good("likes " + "not ".repeat(7) + "1;");
        faultAt("likes " + "not ".repeat(7) + "@not 1;", 2);
        faultAt("likes " + "not ".repeat(7) + "@(1);", 2);
        good("likes not (not (not (not 1)));");
        faultAt("likes not (not (not (not @(1))));", 2);
        faultAt("likes not (not (not (not @not 1)));", 2);
        good("likes " + ("not ".repeat(7) + "1 and ").repeat(29) + "1;");
        fault(";".repeat(1600), 2, 0);
        fault("likes " + "(".repeat(1594), 2, 13);
        good(" ".repeat(1593) + "pool 5;");
        // as much as can stand at once: five signs wait for what is in the brackets, five times
        BathWater deep = Texts.bath("swimmer a manners 1 at 0;likes " + "0 or 1 and 1<2+1*(".repeat(5) + ")".repeat(5) + ";");
        due("a bracket with nothing in it", deep.fault(0), 2);
        deep = Texts.bath("swimmer a manners 1 at 0;likes " + "0 or 1 and 1<2+1*(".repeat(4) + "0 or 1 and 1<2+1*3" + ")".repeat(4) + ";");
        due("a deep one", deep.about(12), 30);
        due("a deep one", deep.liking(0, 0), 1);
        manyBaths();
    }

    /** What a former likes was is no matter, however often a BATH is told anew. */
    private static void manyBaths() {
        BathWater x = new BathWater();
        for (int i = 0; i < 20; i++) {
            Texts.feed(x, "swimmer a manners 9 at 0;likes " + "1+".repeat(29) + i + ";");
            due("bath", x.bath(), 1);
            due("liking", x.liking(0, 0), 29 + i);
        }
        Texts.feed(x, "swimmer a manners 9 at 0;");
        due("bath", x.bath(), 1);
        due("not told", x.liking(0, 2), 7);
        due("no units", x.about(12), 0);
    }

    private static void formulas() {
        faultAt("likes@;", 2);
        faultAt("likes@", 2);
        faultAt("likes 1+@;", 2);
        faultAt("likes (1@;", 2);
        faultAt("likes (@);", 2);
        faultAt("likes 1@);", 2);
        faultAt("likes 1<2@<3;", 2);
        good("likes (1<2)<3;");
        faultAt("likes not@;", 2);
        faultAt("likes 1+@not 2;", 2);
        good("likes 1+(not 2);");
        faultAt("likes 1 @2;", 2);
        faultAt("likes @-1;", 2);
        faultAt("likes @bob;", 2);
        faultAt("likes 1 and@;", 2);
        faultAt("likes 1 or @or 2;", 2);
        faultAt("likes manners*@*2;", 2);
        faultAt("likes @pool;", 2);
        faultAt("likes 1 @gala;", 2);
        good("likes manners+far-water*swum/wants%step;");
    }

    /** LIKING of the first SWIMMER from a SPOT, by a likes. */
    private static void value(String likes, int want) {
        BathWater x = Texts.bath("pool 9;water 13 at 7;water 4 at 2;swimmer a manners 41 wants 5 at 7;likes " + likes + ";");
        due("fault of " + likes, x.fault(0), 0);
        due(likes, x.liking(0, 2), want);
    }

    private static void values() {
        value("manners", 41);
        value("far", 5);
        value("water", 13);
        value("swum", 0);
        value("wants", 5);
        value("step", 0);
        value("1-2-3", -4);
        value("2+3*4", 14);
        value("(2+3)*4", 20);
        value("7/2*2", 6);
        value("7%4*2", 6);
        value("(0-7)/2", -3);
        value("(0-7)%4", -3);
        value("7/(0-2)", -3);
        value("7%(0-4)", 3);
        value("7/0", 0);
        value("7%0", 0);
        value("7/0+1", 1);
        value("9999*9999*9999", (int) (9999L * 9999 * 9999));
        value("1<2", 1);
        value("2<1", 0);
        value("2<2", 0);
        value("2>1", 1);
        value("2>2", 0);
        value("2=2", 1);
        value("2=1", 0);
        value("1+1=2", 1);
        value("(1=1)+1", 2);
        value("7 or 0", 1);
        value("0 or 7", 1);
        value("1 or 0", 1);
        value("0 and 7", 0);
        value("1 and 1", 1);
        value("1 and 0", 0);
        value("0 or 0", 0);
        value("7 and 9", 1);
        value("7 and 0", 0);
        value("1 or 1 and 0", 1);
        value("(1 or 1) and 0", 0);
        value("(0-1) and (0-2)", 1);
        value("not 0", 1);
        value("not 7", 0);
        value("not not 7", 1);
        value("not 1<2", 0);
        value("not 0 and 0", 0);
        value("not 1 or 1", 1);
        value("(not 0)*3", 3);
        value("(7)", 7);
        // the least number there is, by -1
        value("(0-2*8*8*8*8*8*8*8*8*8*8/1)*1/(0-1)", Integer.MIN_VALUE);
        value("(0-2*8*8*8*8*8*8*8*8*8*8/1)*1%(0-1)", 0);
    }

    private static void anew() {
        BathWater x = Texts.bath("pool 3;water 5 at 1;swimmer a manners 5 at 0;swimmer b manners 1;gala 7;draw 9;likes far+1;");
        due("step", x.step(), 1);
        due("image", x.image(1), 1);
        due("damp", x.damp(0, 0, 0, true), 0);
        due("orders", x.orders(1), 2);
        due("later", x.later(5), 5);
        Texts.feed(x, "pool 2;pool 2;");
        due("bath with a fault", x.bath(), -1);
        due("fault", x.fault(0), 2);
        due("place", x.fault(1), 7);
        due("no such", x.fault(2), -1);
        due("no such", x.fault(-1), -1);
        due("spots stay", x.about(1), 3);
        due("acts stay", x.about(7), 1);
        due("damp stays", x.about(9), 1);
        due("what lies stays", x.about(13), 2);
        due("tape stays", x.about(11), 14);
        due("units stay", x.about(12), 2);
        due("box stays", x.back(1), 1);
        due("end", x.end(7), 7);
        due("step in earnest", x.step(), 1);
        due("bath", x.bath(), 0);
        due("fault gone", x.fault(0), 0);
        due("place gone", x.fault(1), -1);
        int[] abouts = {0, 2, 9, 0, 0, 0, 0, 0, 0, 0, 5, 0, 0, 0, 0, 0, -1};
        for (int i = 0; i < abouts.length; i++) {
            due("about " + i, x.about(i), abouts[i]);
        }
        due("box gone", x.back(1), -1);
        due("undo gone", x.undo() ? 1 : 0, 0);
    }
}

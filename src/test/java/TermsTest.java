import java.io.IOException;

/** The boundary cases that the document's terms name (==== 1 to ==== 4), each under its own words. */
public final class TermsTest {
    private static final String[] OWN_WORDS = {"pool", "flow", "water", "at", "swimmer", "manners", "wants", "likes", "gala",
        "draw", "or", "and", "not", "far", "swum", "step"};

    private final Edges edges = new Edges();

    private TermsTest() throws IOException {
    }

    public static void main(String[] args) throws IOException {
        TermsTest test = new TermsTest();
        test.length();
        test.words();
        test.numbers();
        test.signs();
        test.partedAndLong();
        test.pool();
        test.waters();
        test.swimmers();
        test.onceEach();
        test.units();
        test.depth();
        test.places();
        test.faultTwo();
        test.faultsThreeAndFour();
        test.atFirst();
        test.likingFacts();
        test.likingSigns();
        test.prefers();
        test.flow();
        test.swimming();
        test.seed();
        test.acts();
        test.ahead();
        test.standing();
        test.turns();
        test.rivals();
        test.numbersOfNow();
        test.damp();
        test.known();
        test.ask();
        test.edges.end("TermsTest");
    }

    private void fault(String text, int fault, int place) {
        BathWater x = Texts.bath(text);
        edges.due("fault(0) of <" + text + ">", x.fault(0), fault);
        edges.due("fault(1) of <" + text + ">", x.fault(1), place);
    }

    private void good(String text) {
        fault(text, 0, -1);
    }

    /** A FAULT at the sign @, which is not of the text. */
    private void faultAt(String text, int fault) {
        int place = text.indexOf('@');
        fault(text.substring(0, place) + text.substring(place + 1), fault, place);
    }

    private BathWater bath(String text) {
        BathWater x = Texts.bath(text);
        edges.due("fault(0) of <" + text + ">", x.fault(0), 0);
        return x;
    }

    // ---- ==== 1 ----

    private void length() {
        edges.term("A BATH is a text of at most 1,600 bytes (empty at first)");
        BathWater empty = new BathWater();
        edges.answers(empty, 0, "bath");
        edges.answers(empty, 6, "about", 1);
        good("");
        good(" ".repeat(1600));
        BathWater full = bath(" ".repeat(1593) + "pool 5;");
        edges.answers(full, 5, "about", 1);
        faultAt(" ".repeat(1599) + "@?", 1);
        faultAt(" ".repeat(1594) + "pool 5@", 2);
        faultAt("@" + ";".repeat(1600), 2);
        faultAt("likes " + "(".repeat(7) + "@" + "(".repeat(1587), 2);
        edges.answers(fedWith(1600), -1, "feed", 0, 0, 0, 0, 0);
    }

    private static BathWater fedWith(int bytes) {
        BathWater x = new BathWater();
        Texts.feed(x, " ".repeat(bytes));
        return x;
    }

    private void words() {
        edges.term("words (a .. z, 8 at most)");
        good("swimmer a manners 1;");
        good("swimmer z manners 1;");
        good("swimmer az manners 1;");
        good("swimmer abcdefgh manners 1;");
        faultAt("swimmer @abcdefghi manners 1;", 1);
        faultAt("swimmer @abcdefghijklmnopqrstuvwxyz manners 1;", 1);
        faultAt("swimmer @" + "a".repeat(1000) + " manners 1;", 1);
        faultAt("swimmer @` manners 1;", 1);
        faultAt("swimmer @{ manners 1;", 1);
        faultAt("swimmer @A manners 1;", 1);
        faultAt("swimmer @Z manners 1;", 1);
        edges.term("Words that stand for themselves here are no NAMES");
        for (String word : OWN_WORDS) {
            faultAt("swimmer @" + word + " manners 1;", 2);
            good("swimmer " + word.substring(1) + "q manners 1;");
        }
        for (String word : new String[] {"bath", "line", "e", "both", "one", "sum", "term", "unit", "n", "name", "spot"}) {
            good("swimmer " + word + " manners 1;");
        }
    }

    private void numbers() {
        edges.term("N (1 to 4 digits)");
        good("pool 6;");
        good("pool 06;");
        good("pool 006;");
        good("pool 0006;");
        faultAt("pool @00006;", 1);
        faultAt("pool @" + "0".repeat(1000) + "6;", 1);
        faultAt("likes @10000;", 1);
        faultAt("likes @4294967297;", 1);
        edges.answers(bath("swimmer a manners 1 at 0;likes 9999;"), 9999, "liking", 0, 0);
        edges.answers(bath("swimmer a manners 1 at 0;likes 0000;"), 0, "liking", 0, 0);
        faultAt("pool 1@:;", 1);
        edges.term("no letter directly behind an N");
        faultAt("pool @6a;", 1);
        faultAt("pool @6z;", 1);
        faultAt("pool @1234flow 9;", 1);
        faultAt("pool @6flow 9;", 1);
        good("pool 6 flow 9;");
        good("pool 6\nflow 9;");
        faultAt("pool @6a", 1);
        good("likes 1*(far);");
        faultAt("likes @1or 2;", 1);
    }

    private void signs() {
        edges.term("signs ; ( ) < > = + - * / %; blanks (32, 10)");
        for (int sign = 0; sign < 256; sign++) {
            boolean letter = sign >= 'a' && sign <= 'z';
            boolean digit = sign >= '0' && sign <= '9';
            if (sign == 32 || sign == 10) {
                good("pool 6;" + (char) sign);
            } else if (letter || digit || ";()<>=+-*/%".indexOf(sign) >= 0) {
                faultAt("pool 6;@" + (char) sign, 2);
            } else {
                faultAt("pool 6;@" + (char) sign, 1);
            }
        }
        good("likes ((1<2)+(1>2)-(1=2))*3/4%5;");
    }

    private void partedAndLong() {
        edges.term("part them or not; each is as long as can be");
        good("pool6 flow9;water1 at0;swimmer a manners1 wants1 at0;likes(1)or(2)and not(3);gala1;draw1;");
        good("\n pool\n\n6  flow\n9\n;\n");
        edges.answers(bath("pool 12;"), 12, "about", 1);
        faultAt("pool 1 @2;", 2);
        faultAt("@po ol 6;", 2);
        faultAt("@poolflow 6;", 2);
        faultAt("@swimmera manners 1;", 2);
        faultAt("likes 1 @oror 2;", 2);
        faultAt("likes @notfar;", 2);
        edges.answers(bath("swimmer orand manners 1;"), 1, "about", 0);
    }

    private void pool() {
        edges.term("pool (how many SPOTS: 1 .. 12, numbered from 0; 6 if not told; flow 1 .. 99; 9) once, ahead of all others");
        edges.answers(bath("pool 1;"), 1, "about", 1);
        edges.answers(bath("pool 12;"), 12, "about", 1);
        faultAt("pool @0;", 4);
        faultAt("pool @13;", 4);
        faultAt("pool @9999;", 4);
        edges.answers(bath("gala 1;"), 6, "about", 1);
        edges.answers(bath("pool 6 flow 1;"), 1, "about", 2);
        edges.answers(bath("pool 6 flow 99;"), 99, "about", 2);
        faultAt("pool 6 flow @0;", 4);
        faultAt("pool 6 flow @100;", 4);
        edges.answers(bath("pool 6;"), 9, "about", 2);
        edges.answers(bath("gala 1;"), 9, "about", 2);
        edges.answers(bath("pool 1;"), 0, "spot", 0, 0);
        edges.answers(bath("pool 1;"), -2, "spot", 1, 0);
        edges.answers(bath("pool 12;"), 0, "spot", 11, 0);
        edges.answers(bath("pool 12;"), -2, "spot", 12, 0);
        faultAt("pool 6;@pool 6;", 2);
        String[] others = {"water 1 at 1;", "swimmer a manners 1;", "likes 1;", "gala 1;", "draw 1;"};
        for (String other : others) {
            faultAt(other + "@pool 6;", 2);
            good("pool 6;" + other);
        }
    }

    private static String waters(int many) {
        StringBuilder text = new StringBuilder("pool 12;");
        for (int i = 0; i < many; i++) {
            text.append("water ").append(i + 1).append(" at ").append(i).append(';');
        }
        return text.toString();
    }

    private void waters() {
        edges.term("at most 12 waters (0 .. 99, at a SPOT at which none is told)");
        edges.answers(bath(waters(12)), 4095, "about", 15);
        edges.answers(bath(waters(12)), 78, "about", 4);
        faultAt(waters(12) + "@water 1 at 0;", 2);
        faultAt(waters(11) + "water 1 at @0;", 3);
        edges.answers(bath("water 0 at 0;"), 0, "spot", 0, 0);
        edges.answers(bath("water 0 at 0;"), 1, "about", 15);
        edges.answers(bath("water 99 at 5;"), 99, "spot", 5, 0);
        faultAt("water @100 at 5;", 4);
        good("water 1 at 0;");
        good("water 1 at 5;");
        faultAt("water 1 at @6;", 4);
        good("pool 1;water 1 at 0;");
        faultAt("pool 1;water 1 at @1;", 4);
        good("pool 12;water 1 at 11;");
        faultAt("pool 12;water 1 at @12;", 4);
        faultAt("water 1 at 3;water 1 at @3;", 3);
        faultAt("water 0 at 3;water 0 at @3;", 3);
        // twelve are told anew with each BATH
        BathWater x = new BathWater();
        for (int i = 0; i < 3; i++) {
            Texts.feed(x, waters(12));
            edges.answers(x, 0, "bath");
            edges.answers(x, 78, "about", 4);
        }
    }

    private static String swimmers(int many) {
        StringBuilder text = new StringBuilder();
        for (int i = 0; i < many; i++) {
            text.append("swimmer ").append((char) ('a' + i)).append(" manners ").append(10 + i).append(';');
        }
        return text.toString();
    }

    private void swimmers() {
        edges.term("5 SWIMMERS (manners 0 .. 99; wants 0 .. 99, 1 if not told; at a SPOT: in the bath; else out of it), numbered as told");
        BathWater five = bath(swimmers(5));
        for (int who = 0; who < 5; who++) {
            edges.answers(five, 10 + who, "swimmer", who, 1);
            edges.answers(five, -1, "swimmer", who, 0);
        }
        edges.answers(five, -2, "swimmer", 5, 1);
        faultAt(swimmers(5) + "@swimmer f manners 1;", 2);
        edges.answers(bath("swimmer a manners 0;"), 0, "swimmer", 0, 1);
        edges.answers(bath("swimmer a manners 99;"), 99, "swimmer", 0, 1);
        faultAt("swimmer a manners @100;", 4);
        edges.answers(bath("swimmer a manners 1 wants 0;"), 0, "swimmer", 0, 2);
        edges.answers(bath("swimmer a manners 1 wants 99;"), 99, "swimmer", 0, 2);
        faultAt("swimmer a manners 1 wants @100;", 4);
        edges.answers(bath("swimmer a manners 7;"), 1, "swimmer", 0, 2);
        edges.answers(bath("swimmer a manners 1 at 0;"), 0, "swimmer", 0, 0);
        edges.answers(bath("swimmer a manners 1 at 5;"), 5, "swimmer", 0, 0);
        faultAt("swimmer a manners 1 at @6;", 4);
        edges.answers(bath("pool 12;swimmer a manners 1 at 11;"), 11, "swimmer", 0, 0);
        faultAt("pool 12;swimmer a manners 1 at @12;", 4);
        faultAt("pool 1;swimmer a manners 1 at @1;", 4);
        wantsToldBefore();
    }

    /** What a former BATH told is no matter. */
    private void wantsToldBefore() {
        BathWater x = bath("pool 2 flow 3;water 9 at 1;swimmer a manners 1 wants 7 at 1;gala 5;draw 6;likes 3;");
        for (int i = 0; i < 2; i++) {
            Texts.feed(x, "swimmer b manners 2;");
            edges.answers(x, 1, "bath");
            edges.answers(x, 1, "swimmer", 0, 2);
            edges.answers(x, -1, "swimmer", 0, 0);
            edges.answers(x, 0, "about", 4);
            edges.answers(x, 6, "about", 1);
            edges.answers(x, 9, "about", 2);
            edges.answers(x, 0, "about", 6);
            edges.answers(x, 0, "about", 12);
            edges.answers(x, 0, "about", 14);
            edges.answers(x, 0, "about", 15);
        }
    }

    private void onceEach() {
        edges.term("likes, gala (0 .. 100 of 100; 0), draw (0 .. 999; 0) once each");
        edges.answers(bath("gala 0;"), 0, "about", 14);
        edges.answers(bath("gala 100;"), 100, "about", 14);
        faultAt("gala @101;", 4);
        edges.answers(bath("draw 5;"), 0, "about", 14);
        edges.answers(bath("draw 0;"), 0, "about", 6);
        edges.answers(bath("draw 999;"), 999, "about", 6);
        faultAt("draw @1000;", 4);
        edges.answers(bath("gala 5;"), 0, "about", 6);
        faultAt("gala 0;@gala 0;", 2);
        faultAt("draw 0;gala 1;@draw 1;", 2);
        faultAt("likes 1;draw 1;@likes 1;", 2);
    }

    private void units() {
        edges.term("60 units in all, 30 in one e");
        String thirty = "1+".repeat(29) + "1";
        edges.answers(bath("likes " + thirty + ";"), 30, "about", 12);
        edges.answers(bath("likes 1;"), 1, "about", 12);
        edges.answers(bath("gala 1;"), 0, "about", 12);
        edges.answers(bath("likes (1);"), 2, "about", 12);
        faultAt("likes " + thirty + "+@1;", 2);
        faultAt("likes " + thirty + "*@far;", 2);
        faultAt("likes " + thirty + " or @1;", 2);
        faultAt("likes " + thirty + " and @1;", 2);
        faultAt("likes " + thirty + "<@1;", 2);
        faultAt("likes " + thirty + " and not @1;", 2);
        faultAt("likes " + thirty + "+@(1);", 2);
        good("likes " + "1+".repeat(27) + "(1+1);");
        faultAt("likes " + "1+".repeat(27) + "(1+1+@1);", 2);
        faultAt("likes " + "1+".repeat(27) + "(1+1)+@1;", 2);
    }

    private void depth() {
        edges.term("(a unit ( e ), or a one behind not, within 6 others at most)");
        good("likes " + "(".repeat(7) + "1" + ")".repeat(7) + ";");
        faultAt("likes " + "(".repeat(7) + "@(1" + ")".repeat(8) + ";", 2);
        good("likes " + "not ".repeat(7) + "1;");
        faultAt("likes " + "not ".repeat(7) + "@not 1;", 2);
        good("likes " + "not(".repeat(3) + "not 1" + ")".repeat(3) + ";");
        good("likes " + "(not ".repeat(3) + "(1)" + ")".repeat(3) + ";");
        faultAt("likes " + "(not ".repeat(3) + "(@(1))" + ")".repeat(3) + ";", 2);
        faultAt("likes " + "not(".repeat(3) + "not @(1)" + ")".repeat(3) + ";", 2);
        faultAt("likes " + "not(".repeat(3) + "not @not 1" + ")".repeat(3) + ";", 2);
        good("likes " + "not ".repeat(7) + "1 and " + "not ".repeat(7) + "1 or " + "(".repeat(7) + "1" + ")".repeat(7) + ";");
        good("likes (((((((1)+1)+1)+1)+1)+1)+1)+1;");
        good("likes 1+(2*(3-(4/(5%(6<(7>(8)))))));");
        faultAt("likes 1+(2*(3-(4/(5%(6<(7>(@(8))))))));", 2);
    }

    private void places() {
        edges.term("the first by its place (bytes from 0; the end: the text's length), at one place the least");
        faultAt("@?", 1);
        faultAt("@bob", 2);
        faultAt("pool 6@", 2);
        faultAt("pool 6 \n @", 2);
        faultAt("pool 6;water@", 2);
        faultAt("pool 6;water 1@", 2);
        faultAt("pool 6;water 1 at@", 2);
        faultAt("swimmer@", 2);
        faultAt("swimmer a@", 2);
        faultAt("swimmer a manners@", 2);
        faultAt("swimmer a manners 1 wants@", 2);
        faultAt("swimmer a manners 1 at@", 2);
        faultAt("likes (1@", 2);
        faultAt("likes not@", 2);
        faultAt("pool @13;?", 4);
        faultAt("pool 6;@?pool 13;", 1);
        faultAt("water 1 at 0;water 1 at @0;gala 101;", 3);
        faultAt("gala @101;water 1 at 0;water 1 at 0;", 4);
        // no TOKEN where another FAULT would be: the least number of the two
        faultAt("pool @?;", 1);
        faultAt("pool @13x;", 1);
        faultAt("pool @00013;", 1);
        faultAt(waters(12) + "@waterwater 1 at 0;", 1);
        faultAt("likes " + "1+".repeat(30) + "@?;", 1);
        faultAt("likes " + "1+".repeat(30) + "@12345;", 1);
        faultAt("likes " + "(".repeat(7) + "@?", 1);
        faultAt("swimmer a manners 1;swimmer @aaaaaaaaa manners 1;", 1);
        faultAt("water 1 at 0;water 1 at @0x;", 1);
    }

    private void faultTwo() {
        edges.term("2 one that can't stand there (one of a sort too many, a second time, pool behind another line: at the line's first word;");
        faultAt(swimmers(5) + "@swimmer a", 2);
        faultAt(swimmers(5) + "@swimmer", 2);
        faultAt(waters(12) + "@water", 2);
        faultAt("likes 1;@likes", 2);
        faultAt("gala 1;@gala 101;", 2);
        faultAt("draw 1;@draw 1000;", 2);
        faultAt("pool 6;@pool 13;", 2);
        faultAt("gala 1;@pool 13;", 2);
        edges.term("a unit too many, what is within 7 others: at its first TOKEN, or the not)");
        faultAt("likes " + "1+".repeat(30) + "@(?", 2);
        faultAt("likes " + "(".repeat(7) + "@(?", 2);
        faultAt("likes " + "(".repeat(7) + "@not ?", 2);
        faultAt("likes " + "(".repeat(6) + "not @not ?", 2);
        faultAt("likes " + "(".repeat(6) + "not @(?", 2);
    }

    private void faultsThreeAndFour() {
        edges.term("3 a NAME told already, a water where one is told (at the SPOT)");
        faultAt("swimmer a manners 1;swimmer @a manners 1;", 3);
        faultAt(swimmers(4) + "swimmer @a manners 1;", 3);
        faultAt(swimmers(4) + "swimmer @d manners 1;", 3);
        faultAt("swimmer abcdefgh manners 1;swimmer @abcdefgh", 3);
        good("swimmer abcdefgh manners 1;swimmer abcdefg manners 1;");
        good("swimmer abcdefgh manners 1;swimmer bbcdefgh manners 1;");
        good("swimmer a manners 1;swimmer aa manners 1;");
        faultAt("pool 12;water 1 at 11;water 1 at @11;", 3);
        faultAt("water 1 at 0;water @100 at 0;", 4);
        // a NAME of a former BATH, or of one with a FAULT, is not told
        BathWater x = bath("swimmer a manners 1;");
        Texts.feed(x, "swimmer b manners 1;swimmer b");
        edges.answers(x, -1, "bath");
        x.end(0);
        Texts.feed(x, "swimmer a manners 1;swimmer b manners 1;water 1 at 0;");
        edges.answers(x, 2, "bath");
        edges.term("4 a number that can't be");
        faultAt("water 1 at 0;water 1 at @6;", 4);
        faultAt("pool 1;water 1 at 0;water 1 at @1;", 4);
        faultAt("water 1 at @9999;", 4);
        faultAt("water 1 at @32;", 4);
        good("likes 0;");
        good("likes 9999;");
    }

    // ---- ==== 2 ----

    private void atFirst() {
        edges.term("A SPOT has so much WATER (as told, else 0, at first). A SWIMMER has MANNERS (as told, at first), "
            + "SWAM so often (0 at first)");
        BathWater x = bath("pool 3;water 99 at 1;water 0 at 2;swimmer a manners 0 wants 0 at 1;swimmer b manners 99;");
        int[] water = {0, 99, 0};
        for (int spot = 0; spot < 3; spot++) {
            edges.answers(x, water[spot], "spot", spot, 0);
        }
        edges.answers(x, 0, "swimmer", 0, 1);
        edges.answers(x, 99, "swimmer", 1, 1);
        edges.answers(x, 0, "swimmer", 0, 3);
        edges.answers(x, 0, "about", 5);
        // a BATH told anew is as at first
        x.step();
        x.step();
        edges.answers(x, 2, "swimmer", 0, 3);
        Texts.feed(x, "swimmer a manners 0 wants 0 at 1;");
        x.bath();
        edges.answers(x, 0, "swimmer", 0, 3);
        edges.answers(x, 0, "spot", 1, 0);
        edges.answers(x, 0, "about", 5);
    }

    private BathWater one(String likes) {
        return bath("pool 12 flow 1;water 13 at 11;water 4 at 0;swimmer a manners 41 wants 5 at 11;likes " + likes + ";");
    }

    private void likingFacts() {
        edges.term("(how many SPOTS from there to his)");
        edges.answers(one("far"), 0, "liking", 0, 11);
        edges.answers(one("far"), 1, "liking", 0, 10);
        edges.answers(one("far"), 11, "liking", 0, 0);
        BathWater left = one("far");
        left.stand(0, 0);
        edges.answers(left, 0, "liking", 0, 0);
        edges.answers(left, 11, "liking", 0, 11);
        edges.term("what comes of likes (manners - far, if it is not told)");
        BathWater plain = bath("pool 12;swimmer a manners 0 at 0;swimmer b manners 99 at 0;");
        edges.answers(plain, 0, "liking", 0, 0);
        edges.answers(plain, -11, "liking", 0, 11);
        edges.answers(plain, 99, "liking", 1, 0);
        edges.answers(plain, 88, "liking", 1, 11);
        edges.answers(one("0"), 0, "liking", 0, 11);
        edges.term("water (at his), swum (how often he SWAM), wants, step (0 at first;");
        BathWater x = one("step*1000+swum*100+water");
        edges.answers(x, 13, "liking", 0, 0);
        x.step();
        edges.answers(x, 1100 + x.spot(11, 0), "liking", 0, 0);
        edges.answers(one("wants"), 5, "liking", 0, 0);
    }

    private void value(String likes, int want) {
        BathWater x = one(likes);
        edges.due(likes, x.liking(0, 2), want);
    }

    private void likingSigns() {
        edges.term("ints, wrapping;");
        String most = "(8*8*8*8*8*8*8*8*8*8*2-1)";
        String least = "(0-8*8*8*8*8*8*8*8*8*8*2)";
        value(most, Integer.MAX_VALUE);
        value(most + "+1", Integer.MIN_VALUE);
        value(least, Integer.MIN_VALUE);
        value(least + "-1", Integer.MAX_VALUE);
        value("0-" + least, Integer.MIN_VALUE);
        value(most + "*2", -2);
        value("9999*9999*9999*9999", (int) (9999L * 9999 * 9999 * 9999));
        edges.term("/ cut, % its rest, both by 0: 0;");
        value("7/2", 3);
        value("(0-7)/2", -3);
        value("7/(0-2)", -3);
        value("(0-7)/(0-2)", 3);
        value("7%2", 1);
        value("(0-7)%2", -1);
        value("7%(0-2)", 1);
        value("(0-7)%(0-2)", -1);
        value("7/0", 0);
        value("7%0", 0);
        value("0/0", 0);
        value("0%0", 0);
        value("(0-7)/0", 0);
        value("(0-7)%0", 0);
        value("5+7/(far-far)", 5);
        value(least + "/(0-1)", Integer.MIN_VALUE);
        value(least + "%(0-1)", 0);
        edges.term("relations, and, or, not are 1 or 0, of what is not 0)");
        value("1<1", 0);
        value("0<1", 1);
        value("1>1", 0);
        value("1>0", 1);
        value("1=1", 1);
        value("1=0", 0);
        value(least + "<" + most, 1);
        value(least + ">" + most, 0);
        value("5 and 7", 1);
        value("5 and 0", 0);
        value("0 and 7", 0);
        value("5 or 0", 1);
        value("0 or 7", 1);
        value("0 or 0", 0);
        value("not 7", 0);
        value("not 0", 1);
        value("not (0-1)", 0);
        value("(0-1) and (0-1)", 1);
        value("(0-1) or 0", 1);
    }

    private void prefers() {
        edges.term("of like ones the first; nobody, if it likes none above 0");
        BathWater two = bath("pool 3;swimmer a manners 2 at 0;swimmer b manners 2 at 2;");
        edges.answers(two, 0, "spot", 1, 1);
        edges.answers(two, 0, "spot", 0, 1);
        edges.answers(two, 1, "spot", 2, 1);
        BathWater one = bath("pool 4;swimmer a manners 2 at 0;");
        edges.answers(one, 0, "spot", 1, 1);
        edges.answers(one, -1, "spot", 2, 1);
        edges.answers(one, -1, "spot", 3, 1);
        edges.answers(bath("swimmer a manners 9;"), -1, "spot", 0, 1);
        edges.answers(new BathWater(), -1, "spot", 0, 1);
        // a LIKING that wraps below 0 is not above 0
        edges.answers(one("8*8*8*8*8*8*8*8*8*8*2"), -1, "spot", 0, 1);
        edges.answers(one("8*8*8*8*8*8*8*8*8*8*2-1"), 0, "spot", 0, 1);
        edges.answers(one("1"), 0, "spot", 0, 1);
        edges.answers(one("0"), -1, "spot", 0, 1);
    }

    /** How much is left at SPOT 0, and has come to SPOT 1, behind a STEP. */
    private void flow(int flow, int water, int gala, int left) {
        BathWater x = bath("pool 3 flow " + flow + ";water " + water + " at 0;swimmer a manners 9 at 2;gala " + gala + ";");
        x.step();
        edges.due("left of " + water + " by " + flow + " with gala " + gala, x.spot(0, 0), left);
        edges.due("come", x.spot(1, 0), water - left);
        edges.due("too far", x.spot(2, 0), 0);
    }

    private void flow() {
        edges.term("as much WATER as flow tells (all, if it is less; twice as much on a GALA)");
        flow(5, 0, 0, 0);
        flow(5, 4, 0, 0);
        flow(5, 5, 0, 0);
        flow(5, 6, 0, 1);
        flow(1, 99, 0, 98);
        flow(99, 99, 0, 0);
        flow(5, 4, 100, 0);
        flow(5, 9, 100, 0);
        flow(5, 10, 100, 0);
        flow(5, 11, 100, 1);
        flow(99, 99, 100, 0);
        edges.term("of each SPOT, all by what is so ahead");
        BathWater row = bath("pool 4 flow 3;water 3 at 0;water 3 at 1;water 3 at 2;swimmer a manners 9 at 3;");
        row.step();
        int[] want = {0, 3, 3, 3};
        for (int at = 0; at < 4; at++) {
            edges.answers(row, want[at], "spot", at, 0);
        }
        edges.term("(it stays, if it is there, or PREFERS nobody)");
        BathWater there = bath("pool 3 flow 3;water 3 at 0;water 5 at 2;swimmer a manners 1 at 2;");
        there.step();
        edges.answers(there, 3, "spot", 0, 0);
        edges.answers(there, 5, "spot", 2, 0);
        BathWater alone = bath("pool 1;water 3 at 0;swimmer a manners 1 at 0;");
        edges.answers(alone, 1, "step");
        edges.answers(alone, 3, "spot", 0, 0);
        edges.term("towards the SPOT of whom it PREFERS");
        BathWater ends = bath("pool 12 flow 99;water 7 at 0;water 8 at 11;swimmer a manners 99 at 5;");
        ends.step();
        edges.answers(ends, 7, "spot", 1, 0);
        edges.answers(ends, 8, "spot", 10, 0);
    }

    private void swimming() {
        edges.term("then each SWIMMER in the bath at whose SPOT there is as much as he wants at least SWAM once more (999 at most)");
        edges.answers(bath("water 5 at 0;swimmer a manners 1 wants 5 at 0;"), 1, "step");
        edges.answers(bath("water 5 at 0;swimmer a manners 1 wants 6 at 0;"), 0, "step");
        edges.answers(bath("swimmer a manners 1 wants 0 at 0;"), 1, "step");
        edges.answers(bath("swimmer a manners 1 wants 0;"), 0, "step");
        edges.answers(bath("pool 2;water 5 at 1;swimmer a manners 9 wants 5 at 0;"), 1, "step");
        edges.answers(bath("pool 2;water 5 at 1;swimmer a manners 9 wants 5 at 0;swimmer b manners 0 wants 5 at 1;"), 1, "step");
        String five = swimmers(5).replace(";", " at 0;");
        edges.answers(bath("water 1 at 0;" + five), 31, "step");
        BathWater often = bath("pool 1;swimmer a manners 1 wants 0 at 0;likes swum;");
        for (int i = 0; i < 998; i++) {
            often.step();
        }
        edges.answers(often, 998, "swimmer", 0, 3);
        edges.answers(often, 1, "step");
        edges.answers(often, 999, "swimmer", 0, 3);
        edges.answers(often, 999, "liking", 0, 0);
        // he SWIMS on, but it is not counted beyond 999
        edges.answers(often, 7, "swims", 0, 7);
        BathWater most = bath("pool 2 flow 1;water 9 at 1;swimmer a manners 1 wants 0 at 0;likes swum>999;");
        for (int i = 0; i < 999; i++) {
            most.step();
        }
        edges.answers(most, 0, "will", 0, 9, 0);
    }

    private void seedBehind(int draw, int steps, int want) {
        BathWater x = bath("draw " + draw + ";");
        for (int i = 0; i < steps; i++) {
            x.step();
        }
        edges.due("seed of " + draw + " behind " + steps, x.about(6), want);
    }

    private void galaAt(int draw, int gala, boolean is) {
        BathWater x = bath("pool 2 flow 1;water 9 at 0;swimmer a manners 9 at 1;draw " + draw + ";gala " + gala + ";");
        x.step();
        edges.due("a gala at " + draw + ", " + gala, x.spot(1, 0), is ? 2 : 1);
    }

    private void seed() {
        edges.term("the SEED (draw, at first) becomes its 137-fold and 71 more, modulo 1,000");
        seedBehind(0, 0, 0);
        seedBehind(0, 1, 71);
        seedBehind(0, 2, 798);
        seedBehind(6, 1, 893);
        seedBehind(7, 1, 30);
        seedBehind(999, 0, 999);
        seedBehind(999, 1, 934);
        seedBehind(777, 1, 520);
        edges.term("it is a GALA, if its rest by 100 is less than gala tells");
        galaAt(0, 71, false);
        galaAt(0, 72, true);
        galaAt(999, 34, false);
        galaAt(999, 35, true);
        // draw 17 becomes 400, draw 44 becomes 99
        galaAt(17, 0, false);
        galaAt(17, 1, true);
        galaAt(44, 99, false);
        galaAt(44, 100, true);
    }

    private void acts() {
        edges.term("40 at most are kept, the oldest go");
        BathWater forty = poured(40);
        edges.answers(forty, 40, "about", 7);
        edges.due("undone of 40", undoAll(forty), 40);
        edges.answers(forty, 0, "spot", 0, 0);
        BathWater more = poured(41);
        edges.answers(more, 40, "about", 7);
        edges.due("undone of 41", undoAll(more), 40);
        edges.answers(more, 1, "spot", 0, 0);
        BathWater many = poured(200);
        edges.due("undone of 200", undoAll(many), 40);
        edges.answers(many, 160, "spot", 0, 0);
        edges.answers(many, 40, "about", 8);
        edges.term("REDO does that again which was taken back last (till another ACT)");
        for (int i = 1; i <= 40; i++) {
            edges.answers(many, 1, "redo");
            edges.answers(many, 160 + i, "spot", 0, 0);
        }
        edges.answers(many, 0, "redo");
        edges.answers(many, 1, "undo");
        edges.answers(many, 1, "pour", 1, 1);
        edges.answers(many, 0, "redo");
        edges.answers(many, 40, "about", 7);
        edges.due("undone behind another act", undoAll(many), 40);
        edges.answers(many, 160, "spot", 0, 0);
    }

    private static BathWater poured(int times) {
        BathWater x = new BathWater();
        for (int i = 0; i < times; i++) {
            x.pour(0, 1);
        }
        return x;
    }

    private static int undoAll(BathWater x) {
        int undone = 0;
        while (undone < 1000 && x.undo()) {
            undone++;
        }
        return undone;
    }

    // ---- ==== 3 ----

    private void ahead() {
        edges.term("no galas, if not told otherwise");
        BathWater gala = bath("pool 3 flow 1;water 9 at 0;swimmer a manners 9 wants 2 at 1;gala 100;");
        edges.answers(gala, 1, "will", 1, 1, 0);
        edges.answers(gala, 2, "will", 1, 1, 1);
        edges.answers(gala, 0, "swims", 0, 1);
        edges.answers(gala, 9, "still");
        edges.answers(gala, 1, "tide", 1, 1);
        edges.answers(gala, 2, "flood", 1, 2);
        edges.answers(gala, 2, "race", 1, 1);
        edges.answers(gala, 1, "dry", 1);
        edges.term("What lies ahead goes on as told beyond the last step, too.");
        BathWater last = bath("pool 2 flow 1;water 99 at 1;swimmer a manners 5 wants 1 at 0;likes step>998;gala 100;");
        for (int i = 0; i < 999; i++) {
            last.step();
        }
        edges.answers(last, -1, "step");
        edges.answers(last, 60, "will", 0, 60, 0);
        edges.answers(last, 99, "will", 0, 60, 1);
        edges.answers(last, 60, "swims", 0, 60);
        edges.term("STILL: behind how many STEPS no WATER goes by the next one first");
        edges.answers(new BathWater(), 0, "still");
        edges.answers(bath("pool 2 flow 1;water 1 at 0;swimmer a manners 9 at 1;"), 1, "still");
        edges.answers(bath("pool 2;water 9 at 0;swimmer a manners 9 at 0;"), 0, "still");
        // as much comes as goes, but it goes
        edges.answers(bath("pool 2;water 5 at 0;water 5 at 1;swimmer a manners 9 at 0;swimmer b manners 9 at 1;likes far+1;"),
            -1, "still");
        // it is still for a while at first
        edges.answers(bath("pool 2;water 5 at 0;swimmer a manners 9 at 1;likes step>2;"), 0, "still");
    }

    private void standing() {
        edges.term("at which he should stand (come in, if he is out), so that most WATER is there behind them; of like ones the first");
        BathWater dry = bath("pool 12;swimmer a manners 9;");
        edges.answers(dry, 0, "lure", 0, 5, 0);
        edges.answers(dry, 0, "lure", 0, 5, 1);
        BathWater out = bath("pool 12;water 9 at 11;swimmer a manners 0;");
        edges.answers(out, 11, "lure", 0, 5, 0);
        edges.answers(out, 9, "lure", 0, 5, 1);
        BathWater ties = bath("pool 4;water 9 at 1;water 9 at 3;swimmer a manners 0 at 3;");
        edges.answers(ties, 1, "lure", 0, 5, 0);
        edges.term("the SPOTS (they may be one) at which they should stand");
        BathWater both = bath("pool 3;water 5 at 2;swimmer a manners 0 wants 5 at 0;swimmer b manners 0 wants 5;");
        edges.answers(both, 2, "both", 0, 1, 1, 0);
        edges.answers(both, 2, "both", 0, 1, 1, 1);
        edges.answers(both, 2, "both", 0, 1, 1, 2);
        edges.term("of like ones the first (the first one's SPOT, then the other one's)");
        BathWater never = bath("pool 3;swimmer a manners 0 wants 5 at 2;swimmer b manners 0 wants 5 at 1;");
        edges.answers(never, 0, "both", 0, 1, 1, 0);
        edges.answers(never, 0, "both", 0, 1, 1, 1);
        edges.answers(never, 0, "both", 0, 1, 1, 2);
        BathWater two = bath("pool 3;water 5 at 0;water 6 at 1;water 7 at 2;swimmer a manners 0 wants 6;swimmer b manners 0 wants 5;");
        edges.answers(two, 1, "both", 0, 1, 1, 0);
        edges.answers(two, 0, "both", 0, 1, 1, 1);
    }

    private void turns() {
        edges.term("each alone in the bath (at SPOT 0; all others out) for n STEPS, one behind the other");
        BathWater one = bath("pool 2 flow 1;water 9 at 1;swimmer a manners 9 wants 3 at 1;");
        edges.answers(one, 1, "orders", 3);
        edges.answers(one, 0, "lies", 0);
        edges.answers(one, -1, "lies", 1);
        edges.answers(one, 1, "swimmer", 0, 0);
        // b draws it to SPOT 0, where he stands at his turn, and is out at that of a
        BathWater two = bath("pool 3 flow 9;water 9 at 2;swimmer a manners 3 wants 9 at 0;swimmer b manners 99 wants 99 at 2;");
        edges.answers(two, 3, "orders", 3);
        edges.answers(two, 1, "lies", 0);
        edges.answers(two, 0, "lies", 1);
        edges.term("so that all SWIM most often together; of like ones the first (place by place)");
        BathWater five = bath(swimmers(5));
        edges.answers(five, 0, "orders", 1);
        for (int i = 0; i < 5; i++) {
            edges.answers(five, i, "lies", i);
        }
        edges.answers(five, -1, "lies", 5);
        BathWater last = bath("pool 2 flow 1;water 9 at 1;swimmer a manners 9 wants 5;swimmer b manners 9 wants 4;"
            + "swimmer c manners 9 wants 3;swimmer d manners 9 wants 2;swimmer e manners 9 wants 1;");
        edges.answers(last, 5, "orders", 1);
        for (int i = 0; i < 5; i++) {
            edges.answers(last, 4 - i, "lies", i);
        }
        // c alone must have it first: of 2 0 1 and 2 1 0 the first
        BathWater third = bath("pool 2;water 5 at 1;swimmer a manners 0 wants 5;swimmer b manners 0 wants 5;swimmer c manners 9 wants 5;");
        edges.answers(third, 3, "orders", 1);
        int[] order = {2, 0, 1};
        for (int i = 0; i < 3; i++) {
            edges.answers(third, order[i], "lies", i);
        }
    }

    private void rivals() {
        edges.term("(of those who did at one STEP the first)");
        BathWater tie = bath("swimmer a manners 1 wants 1 at 0;swimmer b manners 1 wants 0 at 0;swimmer c manners 1 wants 0 at 1;");
        edges.answers(tie, 1, "race", 1, 0);
        edges.answers(tie, 1, "race", 1, 1);
        edges.answers(tie, 1, "race", 20, 0);
        edges.answers(tie, 20, "race", 20, 1);
        edges.term("the least MANNERS (0 .. 99) by which the WATER of a SPOT would PREFER him");
        edges.answers(bath("swimmer a manners 50 at 0;likes 1;"), 0, "court", 0, 5);
        edges.answers(bath("swimmer a manners 50 at 0;likes manners>98;"), 99, "court", 0, 5);
        edges.answers(bath("swimmer a manners 50 at 0;likes manners>99;"), -1, "court", 0, 5);
        edges.answers(bath("swimmer a manners 50 at 0;swimmer b manners 99 at 0;"), 99, "court", 0, 5);
        edges.answers(bath("swimmer a manners 99 at 0;swimmer b manners 50 at 0;"), -1, "court", 1, 5);
        edges.term("each makes his MANNERS 0 .. 5 more now (99 at most)");
        duels();
        edges.term("less how often they would, if he left now (it may be below 0)");
        BathWater worse = bath("pool 3;water 9 at 1;swimmer a manners 9 wants 50 at 0;swimmer b manners 5 at 2;");
        edges.answers(worse, -60, "loss", 0, 60);
        BathWater better = bath("pool 3;water 9 at 1;swimmer a manners 9 wants 50 at 0;swimmer b manners 0 at 0;");
        edges.answers(better, 60, "loss", 0, 60);
        edges.answers(better, 0, "loss", 1, 60);
    }

    private void duels() {
        String text = "pool 3;water 9 at 1;swimmer a manners %d at 0;swimmer b manners %d at 2;";
        // five more is not enough, or just enough: b needs one more than a, a needs as much as b
        BathWater five = bath(String.format(text, 10, 5));
        edges.answers(five, 1, "duel", 0, 1, 1);
        edges.answers(five, 0, "lies", 0);
        edges.answers(five, 0, "lies", 1);
        edges.answers(bath(String.format(text, 10, 6)), 0, "duel", 0, 1, 1);
        // 99 at most: b would need 100
        edges.answers(bath(String.format(text, 99, 99)), 1, "duel", 0, 1, 1);
        edges.answers(bath(String.format(text, 99, 95)), 1, "duel", 0, 1, 1);
        // a makes his 99 by one more, and b can't do better then: but a would rather make none, if b makes none
        edges.answers(bath(String.format(text, 98, 99)), 1, "duel", 0, 1, 1);
        BathWater up = bath(String.format(text, 98, 99));
        up.duel(0, 1, 1);
        edges.answers(up, 1, "lies", 0);
        edges.answers(up, 0, "lies", 1);
        // what could be made in a former DUEL is no matter
        up.teach(0, 90);
        edges.answers(up, 1, "duel", 0, 1, 1);
        up.teach(0, 99);
        up.drain(1, 8);
        edges.answers(up, 1, "duel", 0, 1, 1);
        edges.answers(up, 0, "lies", 0);
        up.teach(1, 90);
        up.pour(1, 8);
        up.teach(0, 50);
        edges.answers(up, 1, "duel", 0, 1, 1);
        up.teach(1, 99);
        up.drain(1, 8);
        edges.answers(up, 1, "duel", 0, 1, 1);
        edges.answers(up, 0, "lies", 1);
    }

    private void numbersOfNow() {
        edges.term("how many SPOTS from the first one with WATER to the last one, both counted (0 without)");
        edges.answers(new BathWater(), 0, "spread");
        edges.answers(bath("pool 12;water 0 at 3;"), 0, "spread");
        edges.answers(bath("pool 12;water 1 at 11;"), 1, "spread");
        edges.answers(bath("pool 12;water 1 at 0;"), 1, "spread");
        edges.answers(bath("pool 12;water 1 at 11;water 1 at 0;"), 12, "spread");
        edges.term("DRAWN: SPOTS whose WATER PREFERS a SWIMMER");
        edges.answers(new BathWater(), 0, "drawn");
        edges.answers(bath("pool 12;swimmer a manners 99 at 0;"), 4095, "drawn");
        edges.answers(bath("pool 12;swimmer a manners 11 at 0;"), 2047, "drawn");
        edges.answers(bath("pool 12;swimmer a manners 99;"), 0, "drawn");
        edges.answers(bath("pool 1;swimmer a manners 1 at 0;"), 1, "drawn");
        edges.term("that there is no GALA in n STEPS, whatever the SEED is");
        for (int draw = 0; draw < 1000; draw += 111) {
            BathWater x = bath("gala 30;draw " + draw + ";");
            edges.answers(x, 2401, "odds", 4, 0);
            edges.answers(x, 10000, "odds", 4, 1);
        }
    }

    // ---- ==== 4 ----

    /** b at 2 draws the 9 from 1, nine at once, if his MANNERS are 6 at least; a at 0 does by 5. */
    private BathWater damped() {
        return bath("pool 3 flow 9;water 9 at 1;swimmer a manners 5 at 0;swimmer b manners 3 at 2;gala 100;");
    }

    private void damp() {
        edges.term("DAMP, 30 at most");
        BathWater thirty = damped();
        for (int i = 0; i < 30; i++) {
            edges.answers(thirty, i, "damp", 0, 0, 0, 1);
        }
        edges.answers(thirty, -1, "damp", 0, 0, 0, 1);
        edges.answers(thirty, 30, "about", 9);
        edges.term("of the bath as it was told (nothing done, no galas), but for the last SWIMMER's MANNERS at first");
        BathWater done = damped();
        done.damp(1, 2, 9, true);
        done.leave(0);
        done.teach(1, 99);
        done.step();
        done.pour(1, 50);
        edges.answers(done, 94, "fits", 0);
        edges.term("that behind so many STEPS (0 .. 9) there was so much WATER at a SPOT at least, or was not");
        atLeast(0, 1, 9, true, 100);
        atLeast(0, 1, 10, true, 0);
        atLeast(0, 1, 10, false, 100);
        atLeast(0, 1, 9, false, 0);
        atLeast(0, 0, 0, true, 100);
        atLeast(0, 0, 0, false, 0);
        atLeast(1, 2, 9, true, 94);
        atLeast(1, 2, 10, true, 0);
        atLeast(1, 2, 1, false, 6);
        atLeast(9, 2, 9, true, 94);
        atLeast(9, 0, 999, true, 0);
        atLeast(9, 0, 999, false, 100);
        // behind nine STEPS, and not behind eight, the ninth is at SPOT 0
        BathWater slow = bath("pool 2 flow 1;water 9 at 1;swimmer a manners 9 at 0;");
        slow.damp(9, 0, 9, true);
        edges.answers(slow, 98, "fits", 0);
        slow.damp(8, 0, 9, false);
        edges.answers(slow, 98, "fits", 0);
        edges.term("FITS: MANNERS (0 .. 99) by which all that counts is so");
        edges.answers(slow, 2, "sure", 0, 0);
        edges.answers(slow, 99, "sure", 1, 0);
        edges.answers(damped(), 0, "sure", 0, 0);
        edges.answers(damped(), 100, "fits", 0);
    }

    private void atLeast(int steps, int spot, int water, boolean is, int fits) {
        BathWater x = damped();
        x.damp(steps, spot, water, is);
        edges.due("fits by " + steps + " " + spot + " " + water + " " + is, x.fits(0), fits);
    }

    private void known() {
        edges.term("is TOLD at a TIME (0 at first, goes on), UNTOLD at a later one or the same");
        edges.answers(new BathWater(), 0, "about", 10);
        BathWater same = damped();
        same.later(5);
        same.damp(1, 2, 9, true);
        edges.answers(same, 1, "untell", 0);
        for (int k = 4; k <= 6; k++) {
            edges.answers(same, 100, "fits", k);
        }
        edges.term("that counts that was TOLD at k or before, not UNTOLD at k or before");
        BathWater x = damped();
        x.later(5);
        x.damp(1, 2, 9, true);
        x.later(10);
        edges.answers(x, 100, "fits", 4);
        edges.answers(x, 94, "fits", 5);
        edges.answers(x, 94, "fits", 15);
        edges.answers(x, 94, "fits", Integer.MAX_VALUE);
        edges.answers(x, 100, "fits", Integer.MIN_VALUE);
        x.untell(0);
        edges.answers(x, 100, "fits", 4);
        edges.answers(x, 94, "fits", 5);
        edges.answers(x, 94, "fits", 14);
        edges.answers(x, 100, "fits", 15);
        edges.answers(x, 100, "fits", Integer.MAX_VALUE);
        // what is told at 0 counts at 0
        BathWater first = damped();
        first.damp(1, 2, 9, true);
        edges.answers(first, 100, "fits", -1);
        edges.answers(first, 94, "fits", 0);
    }

    private void ask() {
        edges.term("the SPOT whose WATER then to know would leave the fewest of these at the most; of like ones the first");
        BathWater x = damped();
        edges.answers(x, 0, "ask", 0, 0, 0);
        edges.answers(x, 100, "ask", 0, 1, 0);
        edges.answers(x, 0, "ask", 1, 0, 0);
        edges.answers(x, 94, "ask", 1, 1, 0);
        BathWater later = bath("pool 5 flow 9;water 9 at 3;swimmer a manners 50 at 1;swimmer b manners 0 at 4;");
        edges.answers(later, 2, "ask", 1, 0, 0);
        edges.answers(later, 50, "ask", 1, 1, 0);
        edges.answers(later, 1, "ask", 9, 0, 0);
        edges.answers(later, 50, "ask", 9, 1, 0);
        BathWater never = bath("pool 12 flow 9;water 99 at 10;swimmer a manners 0 at 11;likes 99;");
        edges.answers(never, 0, "ask", 9, 0, 0);
        edges.answers(never, 100, "ask", 9, 1, 0);
        // the last SPOT tells most: none comes there by 0 .. 25, one by 26 .. 50, two by 51 .. 75, three by 76 .. 99
        BathWater last = bath("pool 12 flow 99;water 1 at 10;water 1 at 9;water 1 at 8;swimmer a manners 0 at 11;likes manners-far*25;");
        edges.answers(last, 11, "ask", 9, 0, 0);
        edges.answers(last, 26, "ask", 9, 1, 0);
        // all the WATER that can be told comes to SPOT 6 by 40 and more
        StringBuilder most = new StringBuilder("pool 12 flow 99;");
        for (int spot = 0; spot < 12; spot++) {
            most.append("water 99 at ").append(spot).append(';');
        }
        BathWater all = bath(most + "swimmer a manners 0 at 6;likes manners>39;");
        edges.answers(all, 0, "ask", 9, 0, 0);
        edges.answers(all, 60, "ask", 9, 1, 0);
        all.teach(0, 40);
        edges.answers(all, 1188, "will", 6, 9, 0);
    }
}

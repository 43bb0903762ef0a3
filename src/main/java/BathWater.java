import java.util.Arrays;

/** A municipal bath whose water goes where it likes. The promises named here are those of shared/DOC.md. */
public final class BathWater {
    public static final int NONE = -1;

    private static final int NO_SUCH = -2;
    private static final int NO_LIKING = -1000000000;
    private static final int NO_LOSS = -1000000;

    private static final int TAPE_LIMIT = 1600;
    private static final int SPOT_LIMIT = 12;
    private static final int SWIMMER_LIMIT = 5;
    private static final int MANNERS_LIMIT = 99;
    private static final int WATER_LIMIT = 999;
    private static final int STEP_LIMIT = 999;
    private static final int SWAM_LIMIT = 999;
    private static final int AHEAD_LIMIT = 60;
    private static final int ORDER_LIMIT = 120;
    private static final int DUEL_CHOICES = 6;
    private static final int ACT_LIMIT = 40;
    private static final int BOX_LIMIT = 3;
    private static final int TIME_LIMIT = 100000;
    private static final int DAMP_LIMIT = 30;
    private static final int DAMP_STEPS = 9;

    /** In one e; as likes is told once, there are never 60 in all. */
    private static final int UNIT_LIMIT = 30;
    private static final int DEPTH_LIMIT = 7;
    /** Thirty units, as many signs between them, and seven nots ahead of each fit well. */
    private static final int CODE_LIMIT = 320;

    /** The words that stand for themselves, eight signs each: a word's TOKEN is its place here. */
    private static final String WORDS =
        "pool    flow    water   at      swimmer manners wants   likes   gala    draw    or      and     not     far     swum    step    ";
    private static final int WORD_LENGTH = 8;
    private static final int DIGIT_LIMIT = 4;
    private static final int WORD_COUNT = 16;
    private static final int POOL = 0;
    private static final int FLOW = 1;
    private static final int WATER = 2;
    private static final int AT = 3;
    private static final int SWIMMER = 4;
    private static final int MANNERS = 5;
    private static final int WANTS = 6;
    private static final int LIKES = 7;
    private static final int GALA = 8;
    private static final int DRAW = 9;
    private static final int OR = 10;
    private static final int AND = 11;
    private static final int NOT = 12;
    private static final int FAR = 13;
    private static final int SWUM = 14;
    private static final int STEP = 15;

    /** The signs: a sign's TOKEN is its place here behind the words. */
    private static final String SIGNS = ";()<>=+-*/%";
    private static final int LINE_END = 16;
    private static final int OPEN = 17;
    private static final int CLOSE = 18;
    private static final int LESS = 19;
    private static final int MORE = 20;
    private static final int SAME = 21;
    private static final int PLUS = 22;
    private static final int MINUS = 23;
    private static final int TIMES = 24;
    private static final int BY = 25;
    private static final int REST = 26;
    private static final int NUMBER = 27;
    private static final int NAME = 28;
    private static final int TEXT_END = 29;
    private static final int NO_TOKEN = 30;

    private static final int FAULT_NO_TOKEN = 1;
    private static final int FAULT_MISPLACED = 2;
    private static final int FAULT_TOLD_ALREADY = 3;
    private static final int FAULT_NUMBER = 4;

    private final int[] tape = new int[TAPE_LIMIT];
    private int tapeLength;
    private final Reader reader = new Reader();
    private Plan plan = new Plan();
    /** A text is read into this one, so that all stays when it has a FAULT. */
    private Plan draft = new Plan();
    private final Scene now = new Scene();
    private final Acts acts = new Acts();
    private final Course course = new Course();
    private final Scene[] boxes = new Scene[BOX_LIMIT];
    private int fullBoxes;
    private final int[] lying = new int[SWIMMER_LIMIT];
    private int lyingCount;
    private final int[] order = new int[SWIMMER_LIMIT];
    private final int[] firstGains = new int[DUEL_CHOICES * DUEL_CHOICES];
    private final int[] otherGains = new int[DUEL_CHOICES * DUEL_CHOICES];
    private final Damps damps = new Damps();
    private int time;

    /** Promise 1: new scenes and plans are those of an empty BATH. */
    public BathWater() {
        for (int i = 0; i < BOX_LIMIT; i++) {
            boxes[i] = new Scene();
        }
    }

    // ---- the text ----

    /** Promise 2. */
    public int feed(int a, int b, int c, int d, int e) {
        if (tapeLength + 20 > TAPE_LIMIT) {
            return NONE;
        }
        putBytes(a);
        putBytes(b);
        putBytes(c);
        putBytes(d);
        putBytes(e);
        return tapeLength;
    }

    private void putBytes(int four) {
        for (int shift = 24; shift >= 0 && tapeLength < TAPE_LIMIT; shift -= 8) {
            tape[tapeLength] = (four >>> shift) & 255;
            tapeLength++;
        }
    }

    /** Promise 3. */
    public int end(int n) {
        if (n < 0 || n > tapeLength) {
            return NONE;
        }
        tapeLength = n;
        return n;
    }

    /** Promise 4. */
    public int bath() {
        if (!reader.reads(tape, tapeLength, draft)) {
            return NONE;
        }
        Plan old = plan;
        plan = draft;
        draft = old;
        tapeLength = 0;
        beginAnew();
        return plan.swimmers;
    }

    private void beginAnew() {
        now.copy(plan.first);
        acts.forget(now);
        damps.count = 0;
        lyingCount = 0;
        fullBoxes = 0;
    }

    /** Promise 5. */
    public int fault(int what) {
        if (what == 0) {
            return reader.fault;
        }
        return what == 1 ? reader.place : NONE;
    }

    // ---- what is now ----

    private static boolean within(int number, int least, int most) {
        return number >= least && number <= most;
    }

    private boolean isSpot(int spot) {
        return spot >= 0 && spot < plan.spots;
    }

    private boolean isSwimmer(int swimmer) {
        return swimmer >= 0 && swimmer < plan.swimmers;
    }

    private boolean isIn(int swimmer) {
        return isSwimmer(swimmer) && now.place[swimmer] >= 0;
    }

    private static boolean isAhead(int n) {
        return within(n, 0, AHEAD_LIMIT);
    }

    /** Everything asked about what lies ahead begins here: at what is now. */
    private void lookAhead() {
        course.begin(plan, now);
    }

    /** Whom the WATER of each SPOT PREFERS now. */
    private int[] choices() {
        lookAhead();
        course.choose(true);
        return course.chosen;
    }

    /** Promise 6. */
    public int spot(int spot, int what) {
        if (!isSpot(spot)) {
            return NO_SUCH;
        }
        switch (what) {
            case 0:
                return now.water[spot];
            case 1:
                return choices()[spot];
            case 2:
                return standingAt(spot);
            default:
                return NO_SUCH;
        }
    }

    private int standingAt(int spot) {
        int bits = 0;
        for (int who = 0; who < plan.swimmers; who++) {
            if (now.place[who] == spot) {
                bits |= 1 << who;
            }
        }
        return bits;
    }

    /** Promise 7. */
    public int swimmer(int swimmer, int what) {
        if (!isSwimmer(swimmer)) {
            return NO_SUCH;
        }
        switch (what) {
            case 0:
                return now.place[swimmer];
            case 1:
                return now.manners[swimmer];
            case 2:
                return plan.wants[swimmer];
            case 3:
                return now.swam[swimmer];
            case 4:
                return spotsOf(swimmer, choices());
            default:
                return NO_SUCH;
        }
    }

    private int spotsOf(int swimmer, int[] chosen) {
        int bits = 0;
        for (int spot = 0; spot < plan.spots; spot++) {
            if (chosen[spot] == swimmer) {
                bits |= 1 << spot;
            }
        }
        return bits;
    }

    /** Promise 8. */
    public int liking(int swimmer, int spot) {
        if (!isIn(swimmer) || !isSpot(spot)) {
            return NO_LIKING;
        }
        lookAhead();
        return course.worth(swimmer, spot);
    }

    // ---- ACTS ----

    /** Promise 9. */
    public int step() {
        if (now.steps >= STEP_LIMIT) {
            return NONE;
        }
        lookAhead();
        course.goBySeed();
        now.copy(course.scene);
        acts.keep(now);
        return course.swimming;
    }

    /** Promise 10. */
    public int stand(int swimmer, int spot) {
        if (!isSwimmer(swimmer) || !isSpot(spot) || now.place[swimmer] == spot) {
            return NO_SUCH;
        }
        int was = now.place[swimmer];
        now.place[swimmer] = spot;
        acts.keep(now);
        return was;
    }

    /** Promise 11. */
    public int leave(int swimmer) {
        if (!isIn(swimmer)) {
            return NONE;
        }
        int was = now.place[swimmer];
        now.place[swimmer] = NONE;
        acts.keep(now);
        return was;
    }

    /** Promise 12. */
    public int pour(int spot, int much) {
        if (!isSpot(spot) || !within(much, 1, 99) || now.water[spot] + much > WATER_LIMIT) {
            return NONE;
        }
        now.water[spot] += much;
        acts.keep(now);
        return now.water[spot];
    }

    /** Promise 13. */
    public int drain(int spot, int much) {
        if (!isSpot(spot) || !within(much, 1, now.water[spot])) {
            return NONE;
        }
        now.water[spot] -= much;
        acts.keep(now);
        return now.water[spot];
    }

    /** Promise 14. */
    public int teach(int swimmer, int manners) {
        if (!isSwimmer(swimmer) || !within(manners, 0, MANNERS_LIMIT) || now.manners[swimmer] == manners) {
            return NONE;
        }
        int had = now.manners[swimmer];
        now.manners[swimmer] = manners;
        acts.keep(now);
        return had;
    }

    /** Promise 15. */
    public boolean undo() {
        return acts.goBack(now);
    }

    /** Promise 16. */
    public boolean redo() {
        return acts.goForth(now);
    }

    // ---- what lies ahead ----

    /** Promise 17. */
    public int will(int spot, int n, int what) {
        if (!isSpot(spot) || !isAhead(n) || !within(what, 0, 1)) {
            return NONE;
        }
        lookAhead();
        if (what == 0) {
            course.goOn(n);
        } else {
            course.goOnBySeed(n);
        }
        return course.scene.water[spot];
    }

    /** Promise 18. */
    public int swims(int swimmer, int n) {
        if (!isSwimmer(swimmer) || !isAhead(n)) {
            return NONE;
        }
        lookAhead();
        course.goOn(n);
        return course.swims[swimmer];
    }

    /** Promise 19. */
    public int still() {
        lookAhead();
        for (int behind = 0; behind <= AHEAD_LIMIT; behind++) {
            course.go(false);
            if (!course.moving) {
                return behind;
            }
        }
        return NONE;
    }

    /** Promise 20. */
    public int lure(int swimmer, int n, int what) {
        if (!isSwimmer(swimmer) || !within(n, 0, 20) || !within(what, 0, 1)) {
            return NONE;
        }
        int best = NONE;
        int most = NONE;
        for (int at = 0; at < plan.spots; at++) {
            lookAhead();
            course.scene.place[swimmer] = at;
            course.goOn(n);
            if (course.scene.water[at] > most) {
                most = course.scene.water[at];
                best = at;
            }
        }
        return what == 0 ? best : most;
    }

    /** Promise 21. */
    public int both(int swimmer, int other, int n, int what) {
        if (!areTwo(swimmer, other) || !within(n, 1, 10) || !within(what, 0, 2)) {
            return NONE;
        }
        int best = NONE;
        int most = NONE;
        for (int pair = 0; pair < SPOT_LIMIT * SPOT_LIMIT; pair++) {
            if (isSpot(pair / SPOT_LIMIT) && isSpot(pair % SPOT_LIMIT)) {
                int often = oftenTogether(swimmer, other, pair, n);
                if (often > most) {
                    most = often;
                    best = pair;
                }
            }
        }
        switch (what) {
            case 0:
                return best / SPOT_LIMIT;
            case 1:
                return best % SPOT_LIMIT;
            default:
                return most;
        }
    }

    private boolean areTwo(int swimmer, int other) {
        return isSwimmer(swimmer) && isSwimmer(other) && swimmer != other;
    }

    private int oftenTogether(int swimmer, int other, int pair, int n) {
        lookAhead();
        course.scene.place[swimmer] = pair / SPOT_LIMIT;
        course.scene.place[other] = pair % SPOT_LIMIT;
        course.goOn(n);
        return course.swims[swimmer] + course.swims[other];
    }

    /** Promise 22. */
    public int orders(int n) {
        lyingCount = 0;
        if (plan.swimmers == 0 || !within(n, 1, 3)) {
            return NONE;
        }
        for (int i = 0; i < SWIMMER_LIMIT; i++) {
            order[i] = i;
        }
        int most = NONE;
        boolean more = true;
        for (int i = 0; i < ORDER_LIMIT && more; i++) {
            int often = oftenInTurns(n);
            if (often > most) {
                most = often;
                layOrder();
            }
            more = turnToNextOrder();
        }
        return most;
    }

    private int oftenInTurns(int n) {
        lookAhead();
        for (int turn = 0; turn < plan.swimmers; turn++) {
            Arrays.fill(course.scene.place, NONE);
            course.scene.place[order[turn]] = 0;
            course.goOn(n);
        }
        return course.allSwims();
    }

    private void layOrder() {
        System.arraycopy(order, 0, lying, 0, plan.swimmers);
        lyingCount = plan.swimmers;
    }

    /** Makes of the order the next one, place by place; false behind the last one. */
    private boolean turnToNextOrder() {
        int at = plan.swimmers - 2;
        while (at >= 0 && order[at] > order[at + 1]) {
            at--;
        }
        if (at < 0) {
            return false;
        }
        int with = plan.swimmers - 1;
        while (with > at + 1 && order[with] < order[at]) {
            with--;
        }
        swapTurns(at, with);
        int right = plan.swimmers - 1;
        for (int left = at + 1; left < right; left++) {
            swapTurns(left, right);
            right--;
        }
        return true;
    }

    private void swapTurns(int one, int other) {
        int kept = order[one];
        order[one] = order[other];
        order[other] = kept;
    }

    /** Promise 23. */
    public int race(int times, int what) {
        if (!within(times, 1, 20) || !within(what, 0, 1)) {
            return NONE;
        }
        lookAhead();
        for (int behind = 1; behind <= AHEAD_LIMIT; behind++) {
            course.go(false);
            int who = course.firstWhoSwam(times);
            if (who != NONE) {
                return what == 0 ? who : behind;
            }
        }
        return NONE;
    }

    /** Promise 24. */
    public int court(int swimmer, int spot) {
        if (!isIn(swimmer) || !isSpot(spot)) {
            return NONE;
        }
        lookAhead();
        for (int manners = 0; manners <= MANNERS_LIMIT; manners++) {
            course.scene.manners[swimmer] = manners;
            if (course.preferredFrom(spot) == swimmer) {
                return manners;
            }
        }
        return NONE;
    }

    /** Promise 25. */
    public int duel(int swimmer, int other, int n) {
        lyingCount = 0;
        if (!areTwo(swimmer, other) || !isIn(swimmer) || !isIn(other) || !within(n, 1, 10)) {
            return NONE;
        }
        weighDuel(swimmer, other, n);
        int rests = 0;
        for (int pair = 0; pair < DUEL_CHOICES * DUEL_CHOICES; pair++) {
            if (isRest(pair)) {
                if (rests == 0) {
                    layPair(pair / DUEL_CHOICES, pair % DUEL_CHOICES);
                }
                rests++;
            }
        }
        return rests;
    }

    /** What each has behind n STEPS, for each two choices; NONE for what would make more than 99. */
    private void weighDuel(int swimmer, int other, int n) {
        for (int pair = 0; pair < DUEL_CHOICES * DUEL_CHOICES; pair++) {
            int mine = now.manners[swimmer] + pair / DUEL_CHOICES;
            int yours = now.manners[other] + pair % DUEL_CHOICES;
            firstGains[pair] = NONE;
            otherGains[pair] = NONE;
            if (mine <= MANNERS_LIMIT && yours <= MANNERS_LIMIT) {
                lookAhead();
                course.scene.manners[swimmer] = mine;
                course.scene.manners[other] = yours;
                course.goOn(n);
                firstGains[pair] = course.scene.water[now.place[swimmer]];
                otherGains[pair] = course.scene.water[now.place[other]];
            }
        }
    }

    private boolean isRest(int pair) {
        int mine = pair / DUEL_CHOICES;
        int yours = pair % DUEL_CHOICES;
        if (firstGains[pair] == NONE) {
            return false;
        }
        for (int another = 0; another < DUEL_CHOICES; another++) {
            int myGain = firstGains[another * DUEL_CHOICES + yours];
            int yourGain = otherGains[mine * DUEL_CHOICES + another];
            if (isBetter(myGain, another, firstGains[pair], mine)
                    || isBetter(yourGain, another, otherGains[pair], yours)) {
                return false;
            }
        }
        return true;
    }

    private static boolean isBetter(int gain, int made, int thanGain, int thanMade) {
        return gain > thanGain || gain == thanGain && made < thanMade;
    }

    private void layPair(int one, int other) {
        lying[0] = one;
        lying[1] = other;
        lyingCount = 2;
    }

    /** Promise 26. */
    public int loss(int swimmer, int n) {
        if (!isIn(swimmer) || !isAhead(n)) {
            return NO_LOSS;
        }
        lookAhead();
        course.goOn(n);
        int withHim = course.allSwims() - course.swims[swimmer];
        lookAhead();
        course.scene.place[swimmer] = NONE;
        course.goOn(n);
        return withHim - course.allSwims();
    }

    /** Promise 27. */
    public int earn(int swimmer, int n, int times) {
        if (!isSwimmer(swimmer) || !isAhead(n) || !within(times, 0, AHEAD_LIMIT)) {
            return NONE;
        }
        for (int manners = 0; manners <= MANNERS_LIMIT && times <= n; manners++) {
            lookAhead();
            course.scene.manners[swimmer] = manners;
            course.goOn(n);
            if (course.swims[swimmer] >= times) {
                return manners;
            }
        }
        return NONE;
    }

    /** Promise 28. */
    public int alone(int swimmer, int n) {
        if (!isSwimmer(swimmer) || !isAhead(n)) {
            return NONE;
        }
        lookAhead();
        Arrays.fill(course.scene.place, NONE);
        course.scene.place[swimmer] = now.place[swimmer];
        course.goOn(n);
        return course.swims[swimmer];
    }

    /** Promise 29. */
    public int leader(int n) {
        if (!isAhead(n)) {
            return NONE;
        }
        lookAhead();
        course.goOn(n);
        int best = NONE;
        int most = NONE;
        for (int who = 0; who < plan.swimmers; who++) {
            if (course.swims[who] > most) {
                most = course.swims[who];
                best = who;
            }
        }
        return best;
    }

    /** Promise 30. */
    public int plug(int n, int what) {
        if (!isAhead(n) || !within(what, 0, 1)) {
            return NONE;
        }
        int best = NONE;
        int most = NONE;
        for (int at = 0; at < plan.spots; at++) {
            if (now.water[at] > 0) {
                int often = oftenWithWater(at, 0, n);
                if (often > most) {
                    most = often;
                    best = at;
                }
            }
        }
        return what == 0 ? best : most;
    }

    /** Promise 31. */
    public int fill(int n, int much, int what) {
        if (!isAhead(n) || !within(much, 1, 99) || !within(what, 0, 1)) {
            return NONE;
        }
        int best = NONE;
        int most = NONE;
        for (int at = 0; at < plan.spots; at++) {
            int often = oftenWithWater(at, now.water[at] + much, n);
            if (often > most) {
                most = often;
                best = at;
            }
        }
        return what == 0 ? best : most;
    }

    private int oftenWithWater(int spot, int much, int n) {
        lookAhead();
        course.scene.water[spot] = much;
        course.goOn(n);
        return course.allSwims();
    }

    /** Promise 32. */
    public int exchange(int n, int what) {
        if (!isAhead(n) || !within(what, 0, 2)) {
            return NONE;
        }
        int best = NONE;
        int most = oftenExchanged(0, 0, n);
        for (int pair = 0; pair < SWIMMER_LIMIT * SWIMMER_LIMIT; pair++) {
            int one = pair / SWIMMER_LIMIT;
            int other = pair % SWIMMER_LIMIT;
            if (one < other && isIn(one) && isIn(other)) {
                int often = oftenExchanged(one, other, n);
                if (often > most) {
                    most = often;
                    best = pair;
                }
            }
        }
        if (best == NONE) {
            return NONE;
        }
        switch (what) {
            case 0:
                return best / SWIMMER_LIMIT;
            case 1:
                return best % SWIMMER_LIMIT;
            default:
                return most;
        }
    }

    private int oftenExchanged(int one, int other, int n) {
        lookAhead();
        course.scene.place[one] = now.place[other];
        course.scene.place[other] = now.place[one];
        course.goOn(n);
        return course.allSwims();
    }

    /** Promise 33. */
    public int thin(int n, int what) {
        if (!isAhead(n) || !within(what, 0, 1)) {
            return NONE;
        }
        int inside = whoIsIn();
        int which = inside;
        for (int set = 0; set < inside; set++) {
            boolean fewer = Integer.bitCount(set) < Integer.bitCount(which);
            if ((set & ~inside) == 0 && fewer && allSwimWithout(set, n)) {
                which = set;
            }
        }
        return what == 0 ? Integer.bitCount(which) : which;
    }

    private int whoIsIn() {
        int bits = 0;
        for (int who = 0; who < plan.swimmers; who++) {
            if (now.place[who] >= 0) {
                bits |= 1 << who;
            }
        }
        return bits;
    }

    private boolean allSwimWithout(int set, int n) {
        lookAhead();
        for (int who = 0; who < plan.swimmers; who++) {
            if ((set >> who & 1) != 0) {
                course.scene.place[who] = NONE;
            }
        }
        course.goOn(n);
        return course.whoStaysDry() == 0;
    }

    /** Promise 34. */
    public int flood(int spot, int much) {
        if (!isSpot(spot) || !within(much, 0, WATER_LIMIT)) {
            return NONE;
        }
        lookAhead();
        for (int behind = 0; behind <= AHEAD_LIMIT; behind++) {
            if (course.scene.water[spot] >= much) {
                return behind;
            }
            course.go(false);
        }
        return NONE;
    }

    /** Promise 35. */
    public int between(int spot, int other) {
        if (!isSpot(spot) || !isSpot(other)) {
            return NONE;
        }
        return waterFrom(Math.min(spot, other), Math.max(spot, other));
    }

    private int waterFrom(int first, int last) {
        int all = 0;
        for (int at = first; at <= last; at++) {
            all += now.water[at];
        }
        return all;
    }

    /** Promise 36. */
    public int spread() {
        int first = NONE;
        int last = NONE;
        for (int at = 0; at < plan.spots; at++) {
            if (now.water[at] > 0) {
                first = first == NONE ? at : first;
                last = at;
            }
        }
        return first == NONE ? 0 : last - first + 1;
    }

    /** Promise 37. */
    public int drawn() {
        int[] chosen = choices();
        int bits = 0;
        for (int at = 0; at < plan.spots; at++) {
            if (chosen[at] != NONE) {
                bits |= 1 << at;
            }
        }
        return bits;
    }

    /** Promise 38. */
    public int deepest() {
        int best = 0;
        for (int at = 1; at < plan.spots; at++) {
            if (now.water[at] > now.water[best]) {
                best = at;
            }
        }
        return best;
    }

    /** Promise 39. */
    public int darling() {
        int[] chosen = choices();
        int best = NONE;
        int most = NONE;
        for (int who = 0; who < plan.swimmers; who++) {
            int many = Integer.bitCount(spotsOf(who, chosen));
            if (isIn(who) && many > most) {
                most = many;
                best = who;
            }
        }
        return best;
    }

    /** Promise 40. */
    public int dry(int n) {
        if (!isAhead(n)) {
            return NONE;
        }
        lookAhead();
        course.goOn(n);
        return course.whoStaysDry();
    }

    /** Promise 41. */
    public int tide(int spot, int n) {
        if (!isSpot(spot) || !isAhead(n)) {
            return NONE;
        }
        lookAhead();
        int most = course.scene.water[spot];
        for (int i = 0; i < n; i++) {
            course.go(false);
            most = Math.max(most, course.scene.water[spot]);
        }
        return most;
    }

    /** Promise 42. */
    public int law(int n, int manners) {
        if (!isAhead(n) || !within(manners, 0, MANNERS_LIMIT)) {
            return NONE;
        }
        lookAhead();
        Arrays.fill(course.scene.manners, manners);
        course.goOn(n);
        return course.allSwims();
    }

    /** Promise 43. */
    public int odds(int n, int part) {
        if (!within(n, 0, 4) || !within(part, 0, 1)) {
            return NONE;
        }
        int upper = 1;
        int lower = 1;
        for (int i = 0; i < n; i++) {
            upper *= 100 - plan.gala;
            lower *= 100;
        }
        int common = commonDivisor(upper, lower);
        if (common == 0) {
            return NONE;
        }
        return part == 0 ? upper / common : lower / common;
    }

    /** The rests fall at each turn, so that a hundred turns are more than ints can need. */
    private static int commonDivisor(int one, int other) {
        int greater = one;
        int rest = other;
        for (int i = 0; i < 100 && rest != 0; i++) {
            int next = greater % rest;
            greater = rest;
            rest = next;
        }
        return greater;
    }

    /** Promise 44. */
    public int lies(int i) {
        return i >= 0 && i < lyingCount ? lying[i] : NONE;
    }

    // ---- what was damp ----

    /** Promise 45. */
    public int damp(int steps, int spot, int water, boolean is) {
        if (!within(steps, 0, DAMP_STEPS) || !isSpot(spot) || !within(water, 0, WATER_LIMIT)) {
            return NONE;
        }
        if (plan.swimmers == 0 || damps.count >= DAMP_LIMIT) {
            return NONE;
        }
        return damps.add(steps, spot, water, is, time);
    }

    /** Promise 46. */
    public boolean untell(int damp) {
        return damps.takeBack(damp, time);
    }

    /** Promise 47. */
    public int later(int by) {
        if (!within(by, 0, 1000) || time + by > TIME_LIMIT) {
            return NONE;
        }
        time += by;
        return time;
    }

    /** The bath as it was told, but for the last SWIMMER's MANNERS. */
    private void lookAtFirst(int manners) {
        course.begin(plan, plan.first);
        if (plan.swimmers > 0) {
            course.scene.manners[plan.swimmers - 1] = manners;
        }
    }

    private boolean isFit(int manners, int k) {
        if (plan.swimmers == 0) {
            return false;
        }
        lookAtFirst(manners);
        int last = damps.lastStep(k);
        for (int steps = 0; steps <= last; steps++) {
            if (!damps.agree(steps, k, course.scene.water)) {
                return false;
            }
            course.go(false);
        }
        return true;
    }

    /** Promise 48. */
    public int fits(int k) {
        int many = 0;
        for (int manners = 0; manners <= MANNERS_LIMIT; manners++) {
            if (isFit(manners, k)) {
                many++;
            }
        }
        return many;
    }

    /** Promise 49. */
    public int sure(int what, int k) {
        if (!within(what, 0, 1)) {
            return NONE;
        }
        for (int i = 0; i <= MANNERS_LIMIT; i++) {
            int manners = what == 0 ? i : MANNERS_LIMIT - i;
            if (isFit(manners, k)) {
                return manners;
            }
        }
        return NONE;
    }

    /** Promise 50. */
    public int ask(int steps, int what, int k) {
        if (!within(steps, 0, DAMP_STEPS) || !within(what, 0, 1)) {
            return NONE;
        }
        damps.fitting = 0;
        for (int manners = 0; manners <= MANNERS_LIMIT; manners++) {
            if (isFit(manners, k)) {
                lookAtFirst(manners);
                course.goOn(steps);
                damps.addFitting(course.scene.water);
            }
        }
        if (damps.fitting == 0) {
            return NONE;
        }
        return what == 0 ? spotToAsk() : damps.mostAlike(spotToAsk());
    }

    private int spotToAsk() {
        int best = 0;
        int fewest = damps.mostAlike(0);
        for (int at = 1; at < plan.spots; at++) {
            int left = damps.mostAlike(at);
            if (left < fewest) {
                fewest = left;
                best = at;
            }
        }
        return best;
    }

    // ---- images ----

    /** Promise 51. */
    public int image(int box) {
        if (!within(box, 0, BOX_LIMIT - 1)) {
            return NONE;
        }
        boxes[box].copy(now);
        fullBoxes |= 1 << box;
        return now.steps;
    }

    /** Promise 52. */
    public int back(int box) {
        if (!within(box, 0, BOX_LIMIT - 1) || (fullBoxes >> box & 1) == 0) {
            return NONE;
        }
        now.copy(boxes[box]);
        acts.forget(now);
        return now.steps;
    }

    /** Promise 53. */
    public int about(int what) {
        switch (what) {
            case 0:
                return plan.swimmers;
            case 1:
                return plan.spots;
            case 2:
                return plan.flow;
            case 3:
                return whoIsIn();
            case 4:
                return waterFrom(0, plan.spots - 1);
            case 5:
                return now.steps;
            case 6:
                return now.seed;
            case 7:
                return acts.current;
            default:
                return aboutMore(what);
        }
    }

    private int aboutMore(int what) {
        switch (what) {
            case 8:
                return acts.latest - acts.current;
            case 9:
                return damps.count;
            case 10:
                return time;
            case 11:
                return tapeLength;
            case 12:
                return plan.likes.units;
            case 13:
                return lyingCount;
            case 14:
                return plan.gala;
            case 15:
                return plan.toldSpots;
            default:
                return NONE;
        }
    }

    /** All that ACTS change. */
    private static final class Scene {
        final int[] water = new int[SPOT_LIMIT];
        /** NONE: out of the bath. */
        final int[] place = new int[SWIMMER_LIMIT];
        final int[] manners = new int[SWIMMER_LIMIT];
        final int[] swam = new int[SWIMMER_LIMIT];
        int steps;
        int seed;

        Scene() {
            clear();
        }

        void clear() {
            Arrays.fill(water, 0);
            Arrays.fill(place, NONE);
            Arrays.fill(manners, 0);
            Arrays.fill(swam, 0);
            steps = 0;
            seed = 0;
        }

        void copy(Scene other) {
            System.arraycopy(other.water, 0, water, 0, SPOT_LIMIT);
            System.arraycopy(other.place, 0, place, 0, SWIMMER_LIMIT);
            System.arraycopy(other.manners, 0, manners, 0, SWIMMER_LIMIT);
            System.arraycopy(other.swam, 0, swam, 0, SWIMMER_LIMIT);
            steps = other.steps;
            seed = other.seed;
        }
    }

    /** The BATH as it was told. */
    private static final class Plan {
        final Scene first = new Scene();
        final int[] wants = new int[SWIMMER_LIMIT];
        final Formula likes = new Formula();
        int spots;
        int flow;
        int swimmers;
        int gala;
        int toldSpots;

        Plan() {
            clear();
        }

        void clear() {
            first.clear();
            likes.clear();
            spots = 6;
            flow = 9;
            swimmers = 0;
            gala = 0;
            toldSpots = 0;
        }
    }

    /** How the WATER likes a SWIMMER: what is told, with each sign behind that which it joins. */
    private static final class Formula {
        private final int[] code = new int[CODE_LIMIT];
        private final int[] numbers = new int[CODE_LIMIT];
        private final int[] stack = new int[UNIT_LIMIT];
        private int length;
        /** None: likes is not told. */
        int units;
        /** Does it look at what each STEP changes, even if no WATER goes? */
        boolean restless;

        void clear() {
            length = 0;
            units = 0;
            restless = false;
        }

        void add(int token, int number) {
            if (length < CODE_LIMIT) {
                code[length] = token;
                numbers[length] = number;
                length++;
            }
            restless = restless || token == SWUM || token == STEP;
        }

        /** The facts stand at the TOKENS that name them. */
        int result(int[] facts) {
            if (units == 0) {
                return facts[MANNERS] - facts[FAR];
            }
            int top = 0;
            for (int i = 0; i < length; i++) {
                int token = code[i];
                if (token == NOT && top > 0) {
                    stack[top - 1] = stack[top - 1] == 0 ? 1 : 0;
                } else if (isJoining(token) && top > 1) {
                    top--;
                    stack[top - 1] = joined(token, stack[top - 1], stack[top]);
                } else if (top < UNIT_LIMIT) {
                    stack[top] = token < WORD_COUNT ? facts[token] : numbers[i];
                    top++;
                }
            }
            return top > 0 ? stack[top - 1] : 0;
        }

        private static boolean isJoining(int token) {
            return token >= LESS && token <= REST || token == OR || token == AND;
        }

        private static int joined(int token, int a, int b) {
            switch (token) {
                case OR:
                    return a != 0 || b != 0 ? 1 : 0;
                case AND:
                    return a != 0 && b != 0 ? 1 : 0;
                case LESS:
                    return a < b ? 1 : 0;
                case MORE:
                    return a > b ? 1 : 0;
                case SAME:
                    return a == b ? 1 : 0;
                case PLUS:
                    return a + b;
                case MINUS:
                    return a - b;
                case TIMES:
                    return a * b;
                case BY:
                    return b == 0 ? 0 : a / b;
                default:
                    return b == 0 ? 0 : a % b;
            }
        }
    }

    /** The ACTS that are kept, as what was behind each of them and ahead of the first one, in a ring. */
    private static final class Acts {
        private static final int SIZE = ACT_LIMIT + 1;
        private final Scene[] scenes = new Scene[SIZE];
        private int start;
        /** How many ACTS can be undone. */
        int current;
        /** How many ACTS are kept, those taken back too. */
        int latest;

        Acts() {
            for (int i = 0; i < SIZE; i++) {
                scenes[i] = new Scene();
            }
        }

        private Scene sceneAt(int act) {
            return scenes[(start + act) % SIZE];
        }

        void forget(Scene now) {
            start = 0;
            current = 0;
            latest = 0;
            sceneAt(0).copy(now);
        }

        void keep(Scene now) {
            if (current == ACT_LIMIT) {
                start = (start + 1) % SIZE;
            } else {
                current++;
            }
            latest = current;
            sceneAt(current).copy(now);
        }

        boolean goBack(Scene now) {
            if (current == 0) {
                return false;
            }
            current--;
            now.copy(sceneAt(current));
            return true;
        }

        boolean goForth(Scene now) {
            if (current >= latest) {
                return false;
            }
            current++;
            now.copy(sceneAt(current));
            return true;
        }
    }

    /** What goes on from a scene, STEP by STEP, beside what is now. */
    private static final class Course {
        private Plan plan = new Plan();
        final Scene scene = new Scene();
        /** How often each SWAM since the beginning. */
        final int[] swims = new int[SWIMMER_LIMIT];
        /** Whom the WATER of each SPOT PREFERS. */
        final int[] chosen = new int[SPOT_LIMIT];
        private final int[] most = new int[SPOT_LIMIT];
        private final int[] coming = new int[SPOT_LIMIT];
        private final int[] facts = new int[WORD_COUNT];
        /** Who SWAM at the latest STEP, as bits. */
        int swimming;
        /** Did WATER go by the latest STEP? */
        boolean moving;

        void begin(Plan of, Scene from) {
            plan = of;
            scene.copy(from);
            Arrays.fill(swims, 0);
            swimming = 0;
            moving = false;
        }

        private void tellFacts(int who, int place) {
            facts[MANNERS] = scene.manners[who];
            facts[WATER] = scene.water[place];
            facts[SWUM] = scene.swam[who];
            facts[WANTS] = plan.wants[who];
            facts[STEP] = scene.steps;
        }

        /** LIKING of one who is in the bath. */
        int worth(int who, int from) {
            int place = scene.place[who];
            if (place < 0) {
                return NO_LIKING;
            }
            tellFacts(who, place);
            facts[FAR] = Math.abs(place - from);
            return plan.likes.result(facts);
        }

        int preferredFrom(int spot) {
            int best = NONE;
            int mostWorth = 0;
            for (int who = 0; who < plan.swimmers; who++) {
                int worth = worth(who, spot);
                if (scene.place[who] >= 0 && worth > mostWorth) {
                    mostWorth = worth;
                    best = who;
                }
            }
            return best;
        }

        /** For a STEP those SPOTS alone count at which there is WATER. */
        void choose(boolean dryToo) {
            Arrays.fill(chosen, NONE);
            Arrays.fill(most, 0);
            for (int who = 0; who < plan.swimmers; who++) {
                int place = scene.place[who];
                if (place >= 0) {
                    tellFacts(who, place);
                }
                for (int from = 0; from < plan.spots && place >= 0; from++) {
                    if (dryToo || scene.water[from] > 0) {
                        facts[FAR] = Math.abs(place - from);
                        int worth = plan.likes.result(facts);
                        if (worth > most[from]) {
                            most[from] = worth;
                            chosen[from] = who;
                        }
                    }
                }
            }
        }

        /** A STEP. */
        void go(boolean gala) {
            choose(false);
            moveWater(gala ? 2 * plan.flow : plan.flow);
            countSwims();
            scene.steps++;
        }

        private void moveWater(int flow) {
            Arrays.fill(coming, 0);
            moving = false;
            for (int from = 0; from < plan.spots; from++) {
                int to = nextFrom(from);
                if (to != from) {
                    int much = Math.min(flow, scene.water[from]);
                    coming[from] -= much;
                    coming[to] += much;
                    moving = true;
                }
            }
            for (int at = 0; at < plan.spots; at++) {
                scene.water[at] += coming[at];
            }
        }

        /** Where the WATER that goes from a SPOT is next. */
        private int nextFrom(int from) {
            int who = chosen[from];
            if (who < 0 || scene.place[who] == from) {
                return from;
            }
            return scene.place[who] < from ? from - 1 : from + 1;
        }

        private void countSwims() {
            swimming = 0;
            for (int who = 0; who < plan.swimmers; who++) {
                int place = scene.place[who];
                if (place >= 0 && scene.water[place] >= plan.wants[who]) {
                    swimming |= 1 << who;
                    swims[who]++;
                    scene.swam[who] = Math.min(SWAM_LIMIT, scene.swam[who] + 1);
                }
            }
        }

        void goOn(int n) {
            for (int left = n - 1; left >= 0; left--) {
                go(false);
                if (!moving && !plan.likes.restless) {
                    goAlike(left);
                    return;
                }
            }
        }

        /** Where nothing changes any more, all STEPS are as the latest one: there is no need to make them. */
        private void goAlike(int times) {
            for (int who = 0; who < plan.swimmers; who++) {
                if ((swimming >> who & 1) != 0) {
                    swims[who] += times;
                    scene.swam[who] = Math.min(SWAM_LIMIT, scene.swam[who] + times);
                }
            }
            scene.steps += times;
        }

        /** A STEP in earnest. */
        void goBySeed() {
            scene.seed = (scene.seed * 137 + 71) % 1000;
            go(scene.seed % 100 < plan.gala);
        }

        void goOnBySeed(int n) {
            for (int i = 0; i < n; i++) {
                goBySeed();
            }
        }

        int allSwims() {
            int all = 0;
            for (int who = 0; who < plan.swimmers; who++) {
                all += swims[who];
            }
            return all;
        }

        int firstWhoSwam(int times) {
            for (int who = 0; who < plan.swimmers; who++) {
                if (swims[who] >= times) {
                    return who;
                }
            }
            return NONE;
        }

        /** Who is in the bath and never SWAM since the beginning, as bits. */
        int whoStaysDry() {
            int bits = 0;
            for (int who = 0; who < plan.swimmers; who++) {
                if (scene.place[who] >= 0 && swims[who] == 0) {
                    bits |= 1 << who;
                }
            }
            return bits;
        }
    }

    /** What was told to be DAMP, and the WATER by each of the MANNERS that fit it. */
    private static final class Damps {
        private static final int MANNERS_COUNT = MANNERS_LIMIT + 1;
        /** A told bath has twelve times 99 at most. */
        private static final int TALLY_SIZE = SPOT_LIMIT * 99 + 1;

        private final int[] steps = new int[DAMP_LIMIT];
        private final int[] spots = new int[DAMP_LIMIT];
        private final int[] waters = new int[DAMP_LIMIT];
        private final boolean[] so = new boolean[DAMP_LIMIT];
        private final int[] toldAt = new int[DAMP_LIMIT];
        /** NONE: not UNTOLD. */
        private final int[] untoldAt = new int[DAMP_LIMIT];
        int count;

        private final int[] fittingWater = new int[MANNERS_COUNT * SPOT_LIMIT];
        int fitting;
        private final int[] tally = new int[TALLY_SIZE];

        int add(int behind, int spot, int water, boolean is, int time) {
            if (count >= DAMP_LIMIT) {
                return NONE;
            }
            steps[count] = behind;
            spots[count] = spot;
            waters[count] = water;
            so[count] = is;
            toldAt[count] = time;
            untoldAt[count] = NONE;
            count++;
            return count - 1;
        }

        boolean takeBack(int damp, int time) {
            if (damp < 0 || damp >= count || untoldAt[damp] != NONE) {
                return false;
            }
            untoldAt[damp] = time;
            return true;
        }

        private boolean countsAt(int damp, int k) {
            return toldAt[damp] <= k && (untoldAt[damp] == NONE || untoldAt[damp] > k);
        }

        /** Behind how many STEPS the last that counts is; NONE if nothing does. */
        int lastStep(int k) {
            int last = NONE;
            for (int i = 0; i < count; i++) {
                if (countsAt(i, k)) {
                    last = Math.max(last, steps[i]);
                }
            }
            return last;
        }

        /** Is all so that counts behind so many STEPS? */
        boolean agree(int behind, int k, int[] water) {
            for (int i = 0; i < count; i++) {
                boolean is = water[spots[i]] >= waters[i];
                if (steps[i] == behind && countsAt(i, k) && is != so[i]) {
                    return false;
                }
            }
            return true;
        }

        void addFitting(int[] water) {
            if (fitting < MANNERS_COUNT) {
                System.arraycopy(water, 0, fittingWater, fitting * SPOT_LIMIT, SPOT_LIMIT);
                fitting++;
            }
        }

        /** How many of the fitting MANNERS have the same WATER at a SPOT, at the most. */
        int mostAlike(int spot) {
            Arrays.fill(tally, 0);
            int most = 0;
            for (int i = 0; i < fitting; i++) {
                int water = fittingWater[i * SPOT_LIMIT + spot];
                if (water >= 0 && water < TALLY_SIZE) {
                    tally[water]++;
                    most = Math.max(most, tally[water]);
                }
            }
            return most;
        }
    }

    /** A text, parted into TOKENS, till its end or where there is none. */
    private static final class Tokens {
        final int[] kinds = new int[TAPE_LIMIT + 1];
        /** Where each begins. */
        final int[] starts = new int[TAPE_LIMIT + 1];
        /** What a number is; the letters of a word, five bits each. */
        final long[] values = new long[TAPE_LIMIT + 1];
        int count;

        private static boolean isLetter(int sign) {
            return sign >= 'a' && sign <= 'z';
        }

        private static boolean isDigit(int sign) {
            return sign >= '0' && sign <= '9';
        }

        void part(int[] text, int length) {
            count = 0;
            int at = 0;
            for (int i = 0; i < TAPE_LIMIT && at < length; i++) {
                if (text[at] == 32 || text[at] == 10) {
                    at++;
                } else if (isLetter(text[at])) {
                    at = takeWord(text, at, length);
                } else if (isDigit(text[at])) {
                    at = takeNumber(text, at, length);
                } else {
                    int which = SIGNS.indexOf((char) text[at]);
                    put(which < 0 ? NO_TOKEN : LINE_END + which, at, 0);
                    at++;
                }
            }
            put(TEXT_END, length, 0);
        }

        private void put(int kind, int start, long value) {
            if (count <= TAPE_LIMIT) {
                kinds[count] = kind;
                starts[count] = start;
                values[count] = value;
                count++;
            }
        }

        /** Answers where it ends. */
        private int takeWord(int[] text, int start, int length) {
            long letters = 0;
            int at = start;
            while (at < length && isLetter(text[at])) {
                letters = letters * 32 + (text[at] - 'a' + 1);
                at++;
            }
            put(at - start > WORD_LENGTH ? NO_TOKEN : wordKind(letters), start, letters);
            return at;
        }

        private static int wordKind(long letters) {
            for (int word = 0; word < WORD_COUNT; word++) {
                if (lettersOf(word) == letters) {
                    return word;
                }
            }
            return NAME;
        }

        private static long lettersOf(int word) {
            long letters = 0;
            for (int i = word * WORD_LENGTH; i < (word + 1) * WORD_LENGTH && WORDS.charAt(i) != ' '; i++) {
                letters = letters * 32 + (WORDS.charAt(i) - 'a' + 1);
            }
            return letters;
        }

        /** Answers where it ends. */
        private int takeNumber(int[] text, int start, int length) {
            int number = 0;
            int at = start;
            while (at < length && isDigit(text[at])) {
                number = number * 10 + (text[at] - '0');
                at++;
            }
            boolean letterBehind = at < length && isLetter(text[at]);
            put(at - start > DIGIT_LIMIT || letterBehind ? NO_TOKEN : NUMBER, start, number);
            return at;
        }
    }

    /** Reads a text, TOKEN by TOKEN, till its end or its first FAULT. */
    private static final class Reader {
        private final Tokens tokens = new Tokens();
        /** Which TOKEN it is at, and what stands there. */
        private int index;
        private int token;
        private int number;
        private final long[] names = new long[SWIMMER_LIMIT];
        /** The sorts of lines told, as bits. */
        private int sorts;
        private int waters;
        private Plan plan = new Plan();
        int fault;
        int place = NONE;

        boolean reads(int[] text, int length, Plan into) {
            tokens.part(text, Math.min(length, text.length));
            plan = into;
            plan.clear();
            sorts = 0;
            waters = 0;
            fault = 0;
            place = NONE;
            index = NONE;
            advance();
            for (int i = 0; i <= TAPE_LIMIT && token != TEXT_END && fault == 0; i++) {
                readLine();
            }
            return fault == 0;
        }

        /** Behind a FAULT, and at the end, it stays where it is. */
        private void advance() {
            if (fault == 0 && index + 1 < tokens.count) {
                index++;
                token = tokens.kinds[index];
                number = (int) tokens.values[index];
            }
        }

        /** The first FAULT stays; it is where the TOKEN begins. */
        private void refuse(int why) {
            if (fault == 0) {
                fault = token == NO_TOKEN ? FAULT_NO_TOKEN : why;
                place = index < 0 ? 0 : tokens.starts[index];
            }
        }

        private void expect(int what) {
            if (token == what) {
                advance();
            } else {
                refuse(FAULT_MISPLACED);
            }
        }

        private int readNumber(int least, int most) {
            int read = number;
            if (token != NUMBER) {
                refuse(FAULT_MISPLACED);
            } else if (read < least || read > most) {
                refuse(FAULT_NUMBER);
            } else {
                advance();
            }
            return fault == 0 ? read : least;
        }

        /** A word and a number behind it, if the word is there. */
        private int readOption(int word, int least, int most, int otherwise) {
            if (token != word) {
                return otherwise;
            }
            advance();
            return readNumber(least, most);
        }

        // lines

        private void readLine() {
            int sort = token;
            if (!mayStand(sort)) {
                refuse(FAULT_MISPLACED);
                return;
            }
            sorts |= 1 << sort;
            advance();
            switch (sort) {
                case POOL:
                    plan.spots = readNumber(1, SPOT_LIMIT);
                    plan.flow = readOption(FLOW, 1, 99, plan.flow);
                    break;
                case WATER:
                    readWater();
                    break;
                case SWIMMER:
                    readSwimmer();
                    break;
                case LIKES:
                    readEither(0);
                    break;
                case GALA:
                    plan.gala = readNumber(0, 100);
                    break;
                default:
                    plan.first.seed = readNumber(0, 999);
                    break;
            }
            expect(LINE_END);
        }

        /** May a line of this sort come now? */
        private boolean mayStand(int sort) {
            switch (sort) {
                case POOL:
                    return sorts == 0;
                case WATER:
                    return waters < SPOT_LIMIT;
                case SWIMMER:
                    return plan.swimmers < SWIMMER_LIMIT;
                case LIKES:
                case GALA:
                case DRAW:
                    return (sorts >> sort & 1) == 0;
                default:
                    return false;
            }
        }

        private void readWater() {
            int much = readNumber(0, 99);
            expect(AT);
            if (token == NUMBER && number < plan.spots && (plan.toldSpots >> number & 1) != 0) {
                refuse(FAULT_TOLD_ALREADY);
            }
            int spot = readNumber(0, plan.spots - 1);
            plan.first.water[spot] = much;
            plan.toldSpots |= 1 << spot;
            waters++;
        }

        private void readSwimmer() {
            int who = plan.swimmers;
            readName(who);
            expect(MANNERS);
            plan.first.manners[who] = readNumber(0, MANNERS_LIMIT);
            plan.wants[who] = readOption(WANTS, 0, 99, 1);
            plan.first.place[who] = readOption(AT, 0, plan.spots - 1, NONE);
            plan.swimmers++;
        }

        private void readName(int who) {
            names[who] = tokens.values[index];
            for (int i = 0; i < who && token == NAME; i++) {
                if (names[i] == names[who]) {
                    refuse(FAULT_TOLD_ALREADY);
                }
            }
            expect(NAME);
        }

        // e: the depth tells within how many units ( e ) and ones behind not it stands

        private void readEither(int depth) {
            readBoth(depth);
            for (int i = 0; i < TAPE_LIMIT && token == OR && fault == 0; i++) {
                advance();
                readBoth(depth);
                plan.likes.add(OR, 0);
            }
        }

        private void readBoth(int depth) {
            readOne(depth);
            for (int i = 0; i < TAPE_LIMIT && token == AND && fault == 0; i++) {
                advance();
                readOne(depth);
                plan.likes.add(AND, 0);
            }
        }

        private void readOne(int depth) {
            if (token == NOT) {
                if (depth >= DEPTH_LIMIT) {
                    refuse(FAULT_MISPLACED);
                    return;
                }
                advance();
                readOne(depth + 1);
                plan.likes.add(NOT, 0);
                return;
            }
            readSum(depth);
            int relation = token;
            if (relation == LESS || relation == MORE || relation == SAME) {
                advance();
                readSum(depth);
                plan.likes.add(relation, 0);
            }
        }

        private void readSum(int depth) {
            readTerm(depth);
            for (int i = 0; i < TAPE_LIMIT && (token == PLUS || token == MINUS) && fault == 0; i++) {
                int sign = token;
                advance();
                readTerm(depth);
                plan.likes.add(sign, 0);
            }
        }

        private void readTerm(int depth) {
            readUnit(depth);
            for (int i = 0; i < TAPE_LIMIT && token >= TIMES && token <= REST && fault == 0; i++) {
                int sign = token;
                advance();
                readUnit(depth);
                plan.likes.add(sign, 0);
            }
        }

        private void readUnit(int depth) {
            boolean tooMany = plan.likes.units >= UNIT_LIMIT;
            boolean tooDeep = token == OPEN && depth >= DEPTH_LIMIT;
            if (!isUnitStart() || tooMany || tooDeep) {
                refuse(FAULT_MISPLACED);
                return;
            }
            plan.likes.units++;
            if (token == OPEN) {
                advance();
                readEither(depth + 1);
                expect(CLOSE);
            } else {
                plan.likes.add(token, number);
                advance();
            }
        }

        private boolean isUnitStart() {
            switch (token) {
                case NUMBER:
                case OPEN:
                case MANNERS:
                case FAR:
                case WATER:
                case SWUM:
                case WANTS:
                case STEP:
                    return true;
                default:
                    return false;
            }
        }
    }
}

import java.math.BigInteger;

/**
 * The boundary cases of section 2 and 3 and of promises 1 and 5 to 32: the last value within each bound and the first
 * outside it, the empty and the full, and of several refusals the first. Above each test stands the document's sentence
 * that it would miss. No object is used for more than 512 calls. (That refused calls change nothing: RefusalTest.)
 */
public final class CallBoundaryTest {
    private static final int NONE = -1, UNKNOWN = -1000000001, OUTSIDE = -1000000002, NOT = -1000000003, FULL = -1000000004;
    private static final int LEAST = Integer.MIN_VALUE, MOST = Integer.MAX_VALUE, BILLION = 1000000000;
    /** Child c owns dummy c, and takes but that. */
    private static final String SIX = "n5 10;c0 0;c0 1;c0 2;c0 3;c0 4;c0 60;"
        + "d0 0 1 0;d1 0 1 1;d2 0 1 2;d3 1 1 3;d4 1 1 4;d9 3 30 5;";
    /** One who takes any, with one spare dummy. */
    private static final String PAIR = "n5 10;c3 0;d0 0 1 9;";

    private static int wrong = 0;

    private static void due(int promise, String call, long got, long want) {
        if (got != want) {
            wrong++;
            System.out.println("promise " + promise + ": " + call + " answered " + got + ", due is " + want);
        }
    }

    private static void feedAll(DummyHunt x, String text) {
        for (int i = 0; i < text.length(); i++) {
            x.feed(text.charAt(i));
        }
    }

    private static DummyHunt made(String text) {
        DummyHunt x = new DummyHunt();
        feedAll(x, text);
        int children = x.nursery();
        if (children < 0) {
            wrong++;
            System.out.println("refused: " + text);
        }
        return x;
    }

    public static void main(String[] args) {
        constants();
        withoutNursery();
        withoutChildren();
        withoutDummies();
        toldBounds();
        childDummyBounds();
        unknownOnes();
        hourBounds();
        driftBounds();
        hoursFull();
        coldLasts();
        marksLast();
        takenByHabit();
        oneEachAtMost();
        floorAndBox();
        boxEmpty();
        germsAndColds();
        undoEach();
        undoTwenty();
        undoWrapsAround();
        undoGone();
        driftDrawsWrap();
        driftEnds();
        mostCalmEdges();
        safeEdges();
        tradesEdges();
        wantsEdges();
        lostBounds();
        lostEdges();
        sparesEdges();
        offQuietEdges();
        triedEight();
        whoseEdges();
        nextEdges();
        bookFifteen();
        judgeEdges();
        seedBounds();
        imageBounds();
        nurseryForgets();
        System.out.println(wrong == 0 ? "all answers are as due" : wrong + " answers are not as due");
        if (wrong != 0) {
            System.exit(1);
        }
    }

    /** "NONE is -1", "-1000000001 and on". */
    private static void constants() {
        due(1, "NONE", DummyHunt.NONE, NONE);
        due(1, "UNKNOWN", DummyHunt.UNKNOWN, UNKNOWN);
        due(1, "OUTSIDE", DummyHunt.OUTSIDE, OUTSIDE);
        due(1, "NOT", DummyHunt.NOT, NOT);
        due(1, "FULL", DummyHunt.FULL, FULL);
    }

    /** "No NURSERY." of a new object, and of one whose nursery gave way to an empty text. */
    private static void withoutNursery() {
        DummyHunt gone = made(SIX);
        gone.give(0, 0);
        gone.hour(1);
        gone.nursery();
        for (DummyHunt x : new DummyHunt[] {new DummyHunt(), gone}) {
            for (int what = 0; what <= 12; what++) {
                due(1, "told(" + what + ")", x.told(what), 0);
            }
            for (int k : new int[] {LEAST, -2, -1, 0, 1, 5, 6, MOST}) {
                due(6, "child(" + k + ", 0)", x.child(k, 0), UNKNOWN);
                due(7, "dummy(" + k + ", 0)", x.dummy(k, 0), UNKNOWN);
                due(9, "give(" + k + ", 0)", x.give(k, 0), UNKNOWN);
                due(10, "drop(" + k + ")", x.drop(k), UNKNOWN);
                due(11, "pick(" + k + ")", x.pick(k), UNKNOWN);
                due(13, "cold(" + k + ")", x.cold(k), UNKNOWN);
                due(16, "mostCalm(true, " + k + ")", x.mostCalm(true, k), k == NONE ? 0 : UNKNOWN);
                due(17, "trades(" + k + ")", x.trades(k), k == NONE ? 0 : NONE);
                due(18, "wants(" + k + ")", x.wants(k), UNKNOWN);
                due(19, "wanted(" + k + ")", x.wanted(k), UNKNOWN);
                due(21, "spares(" + k + ")", x.spares(k), UNKNOWN);
                due(22, "off(" + k + ")", x.off(k), UNKNOWN);
                due(24, "trial(" + k + ", 0, true)", x.trial(k, 0, true), UNKNOWN);
                due(25, "whose(" + k + ")", x.whose(k), k == NONE ? 1 : UNKNOWN);
                due(27, "write(" + k + ", -1)", x.write(k, NONE), UNKNOWN);
            }
            due(8, "hour(1)", x.hour(1), NOT);
            due(8, "hour(60)", x.hour(60), NOT);
            due(8, "hour(0): OUTSIDE ahead of NOT", x.hour(0), OUTSIDE);
            due(8, "hour(61): OUTSIDE ahead of NOT", x.hour(61), OUTSIDE);
            due(14, "drift(1)", x.drift(1), NOT);
            due(14, "drift(60)", x.drift(60), NOT);
            due(14, "drift(0): OUTSIDE ahead of NOT", x.drift(0), OUTSIDE);
            due(14, "drift(61): OUTSIDE ahead of NOT", x.drift(61), OUTSIDE);
            due(12, "boil()", x.boil(), NOT);
            due(15, "undo()", x.undo(), NOT);
            due(20, "lost(1, 0, 0)", x.lost(1, 0, 0), NOT);
            due(23, "quiet(60)", x.quiet(60), BILLION);
            due(26, "next()", x.next(), NONE);
            due(28, "tear()", x.tear(), 0);
            due(29, "judge()", x.judge(), NONE);
        }
    }

    /** A nursery of no children: "An empty .. NURSERY" is another thing; hours pass in this one. */
    private static void withoutChildren() {
        DummyHunt x = made("n5 100;d0 0 1 9;d1 1 0 9;");
        due(3, "told(2)", x.told(2), 0);
        due(6, "child(0, 0)", x.child(0, 0), UNKNOWN);
        due(9, "give(0, 0)", x.give(0, 0), UNKNOWN);
        due(13, "cold(0)", x.cold(0), UNKNOWN);
        due(16, "mostCalm(false, -1)", x.mostCalm(false, NONE), 0);
        due(16, "mostCalm(false, 0)", x.mostCalm(false, 0), UNKNOWN);
        due(17, "trades(-1)", x.trades(NONE), 0);
        due(19, "wanted(1)", x.wanted(1), 0);
        due(21, "spares(1)", x.spares(1), 0);
        due(25, "whose(-1)", x.whose(NONE), 1);
        due(25, "whose(0)", x.whose(0), UNKNOWN);
        due(26, "next()", x.next(), NONE);
        due(27, "write(1, -1)", x.write(1, NONE), 1);
        due(27, "write(1, 0)", x.write(1, 0), UNKNOWN);
        due(12, "boil()", x.boil(), 3);
        due(8, "hour(60)", x.hour(60), 60);
        x.seed(7);
        due(14, "drift(60)", x.drift(60), 0);
        due(14, "no draw without children", x.seed(7), 7);
        due(5, "told(5)", x.told(5), 120);
    }

    /** A nursery of no dummies. */
    private static void withoutDummies() {
        DummyHunt x = made("n5 100;c3 0;");
        due(7, "dummy(0, 0)", x.dummy(0, 0), UNKNOWN);
        due(12, "boil()", x.boil(), NOT);
        due(16, "mostCalm(false, -1)", x.mostCalm(false, NONE), 0);
        due(16, "mostCalm(false, 0)", x.mostCalm(false, 0), NONE);
        due(18, "wants(0)", x.wants(0), 0);
        due(24, "trial(0, 0, true)", x.trial(0, 0, true), UNKNOWN);
        due(25, "whose(-1)", x.whose(NONE), NOT);
        due(25, "whose(0)", x.whose(0), NOT);
        due(25, "whose(1): UNKNOWN ahead of NOT", x.whose(1), UNKNOWN);
        due(26, "next()", x.next(), NOT);
        due(20, "lost(1, 1, 1)", x.lost(1, 1, 1), NOT);
        x.seed(7);
        due(14, "drift(60)", x.drift(60), 0);
        due(14, "no draw without dummies", x.seed(7), 7);
        due(14, "nobody caught a cold", x.told(7), 0);
        due(6, "it howls", x.child(0, 5), 60);
    }

    /** told: "0 H .. 12 how many can be undone. OUTSIDE." */
    private static void toldBounds() {
        DummyHunt x = made(SIX);
        due(5, "told(0)", x.told(0), 5);
        due(5, "told(12)", x.told(12), 0);
        for (int what : new int[] {LEAST, UNKNOWN, -2, -1, 13, 14, MOST}) {
            due(5, "told(" + what + ")", x.told(what), OUTSIDE);
        }
        due(5, "told(9), each mark can be read", x.told(9), 63);
        for (int k = 0; k < 6; k++) {
            x.give(k, k);
            due(5, "told(6), bit " + k, x.told(6), (2 << k) - 1);
        }
        for (int k = 0; k < 6; k++) {
            x.cold(k);
            due(5, "told(7), bit " + k, x.told(7), (2 << k) - 1);
        }
        for (int k = 0; k < 6; k++) {
            x.drop(k);
            due(5, "told(8), bit " + k, x.told(8), (2 << k) - 1);
            due(5, "told(6) is less", x.told(6), 63 - ((2 << k) - 1));
        }
    }

    /** child: "what = 0 B .. 5 HOURS HOWLED", dummy: "what = 0 K .. 7"; "UNKNOWN, OUTSIDE." in this order. */
    private static void childDummyBounds() {
        DummyHunt x = made(SIX);
        for (int what : new int[] {LEAST, -2, -1, 6, 7, MOST}) {
            due(6, "child(5, " + what + ")", x.child(5, what), OUTSIDE);
            due(6, "child(6, " + what + ")", x.child(6, what), UNKNOWN);
            due(6, "child(-1, " + what + ")", x.child(-1, what), UNKNOWN);
        }
        for (int what : new int[] {LEAST, -2, -1, 8, 9, MOST}) {
            due(7, "dummy(5, " + what + ")", x.dummy(5, what), OUTSIDE);
            due(7, "dummy(6, " + what + ")", x.dummy(6, what), UNKNOWN);
            due(7, "dummy(-1, " + what + ")", x.dummy(-1, what), UNKNOWN);
        }
        x.hour(3);
        due(6, "child(5, 0)", x.child(5, 0), 0);
        due(6, "child(5, 1)", x.child(5, 1), 60);
        due(6, "child(5, 2)", x.child(5, 2), NONE);
        due(6, "child(5, 3)", x.child(5, 3), 5);
        due(6, "child(5, 4)", x.child(5, 4), 0);
        due(6, "child(5, 5)", x.child(5, 5), 3);
        int[] last = {9, 3, 30, 5, NONE, 0, 0, 0};
        for (int what = 0; what < last.length; what++) {
            due(7, "dummy(5, " + what + ")", x.dummy(5, what), last[what]);
        }
        x.give(5, 5);
        due(6, "child(5, 2)", x.child(5, 2), 5);
        due(7, "dummy(5, 4)", x.dummy(5, 4), 5);
        due(7, "dummy(5, 6)", x.dummy(5, 6), 32);
        due(7, "dummy(5, 7)", x.dummy(5, 7), 2);
        x.drop(5);
        due(7, "dummy(5, 4)", x.dummy(5, 4), NONE);
        due(7, "dummy(5, 7)", x.dummy(5, 7), 1);
        x.pick(5);
        due(7, "dummy(5, 7)", x.dummy(5, 7), 0);
        due(6, "no own one", made(PAIR).child(0, 3), NONE);
        due(7, "a spare one", made(PAIR).dummy(0, 3), 9);
    }

    /** "UNKNOWN (a CHILD, DUMMY .. that there is not)": the last there is and the first there is not, for each call. */
    private static void unknownOnes() {
        for (int k : new int[] {LEAST, -1000, -2, -1, 2, 3, 5, 6, 9, MOST}) {
            DummyHunt x = made("n5 0;c3 0;c3 0;d0 0 0 9;d0 0 0 9;");
            due(6, "child", x.child(k, 0), UNKNOWN);
            due(7, "dummy", x.dummy(k, 0), UNKNOWN);
            due(9, "give of " + k, x.give(k, 1), UNKNOWN);
            due(9, "give to " + k, x.give(1, k), UNKNOWN);
            due(9, "give both " + k, x.give(k, k), UNKNOWN);
            due(10, "drop", x.drop(k), UNKNOWN);
            due(11, "pick", x.pick(k), UNKNOWN);
            due(13, "cold", x.cold(k), UNKNOWN);
            due(16, "mostCalm", x.mostCalm(false, k), k == NONE ? 2 : UNKNOWN);
            due(16, "mostCalm, safe", x.mostCalm(true, k), k == NONE ? 2 : UNKNOWN);
            due(18, "wants", x.wants(k), UNKNOWN);
            due(19, "wanted", x.wanted(k), UNKNOWN);
            due(21, "spares", x.spares(k), UNKNOWN);
            due(22, "off", x.off(k), UNKNOWN);
            due(24, "trial of " + k, x.trial(k, 1, true), UNKNOWN);
            due(24, "trial with " + k, x.trial(1, k, true), UNKNOWN);
            due(25, "whose", x.whose(k), k == NONE ? 2 : UNKNOWN);
            due(27, "write of " + k, x.write(k, 1), UNKNOWN);
            due(27, "write of " + k + " with nobody", x.write(k, NONE), UNKNOWN);
            due(27, "write with " + k, x.write(1, k), k == NONE ? 1 : UNKNOWN);
            due(31, "keep", x.keep(k), UNKNOWN);
            due(32, "goBack", x.goBack(k), UNKNOWN);
        }
        DummyHunt x = made("n5 0;c3 0;c3 0;d0 0 0 9;");
        due(9, "as many dummies as children there are not", x.give(1, 0), UNKNOWN);
        due(9, "the last of each", x.give(0, 1), 1);
        due(9, "UNKNOWN child ahead of NOT: another has it", x.give(0, 2), UNKNOWN);
        due(9, "UNKNOWN dummy ahead of NOT: the child has one", x.give(1, 1), UNKNOWN);
        due(10, "drop(0)", x.drop(0), 1);
        due(11, "pick(0)", x.pick(0), 0);
        due(13, "cold(1)", x.cold(1), 5);
        due(18, "wants(1)", x.wants(1), 1);
        due(19, "wanted(0)", x.wanted(0), 2);
        due(21, "spares(0)", x.spares(0), 1);
        due(22, "off(1)", x.off(1), 200);
        due(24, "trial(1, 0, true)", x.trial(1, 0, true), 1);
        due(27, "write(0, 1)", x.write(0, 1), 1);
    }

    /** "n HOURS (1 .. 60): HOURS. OUTSIDE". */
    private static void hourBounds() {
        DummyHunt x = made(PAIR);
        for (int n : new int[] {LEAST, -60, -1, 0, 61, 62, 9001, MOST}) {
            due(8, "hour(" + n + ")", x.hour(n), OUTSIDE);
        }
        due(8, "hour(1)", x.hour(1), 1);
        due(8, "hour(60)", x.hour(60), 61);
        due(8, "child(0, 5)", x.child(0, 5), 61);
        x.give(0, 0);
        due(8, "hour(59)", x.hour(59), 120);
        due(8, "calm ones howl no more", x.child(0, 5), 61);
    }

    /** "n HOURS (1 .. 60) BY DRAWS: who is CALM (a SET). OUTSIDE". */
    private static void driftBounds() {
        DummyHunt x = made("n5 10;c3 0;");
        for (int n : new int[] {LEAST, -60, -1, 0, 61, 62, 9001, MOST}) {
            due(14, "drift(" + n + ")", x.drift(n), OUTSIDE);
        }
        due(14, "drift(1)", x.drift(1), 0);
        due(14, "told(5)", x.told(5), 1);
        due(14, "drift(60)", x.drift(60), 0);
        due(14, "told(5)", x.told(5), 61);
    }

    /** "FULL: HOURS are above 9000." */
    private static void hoursFull() {
        hoursFullFrom(60, 1, 9001);
        hoursFullFrom(60, 60, 9060);
        hoursFullFrom(59, 1, 9000);
        DummyHunt x = made("n1 0;");
        for (int i = 0; i < 150; i++) {
            x.drift(60);
        }
        due(14, "drift(1) at 9000", x.drift(1), 0);
        due(14, "drift(1) at 9001", x.drift(1), FULL);
        due(14, "drift(60) at 9001", x.drift(60), FULL);
        due(14, "drift(61): OUTSIDE ahead of FULL", x.drift(61), OUTSIDE);
        due(14, "drift(0): OUTSIDE ahead of FULL", x.drift(0), OUTSIDE);
        due(14, "told(5)", x.told(5), 9001);
    }

    /** After 149 times 60 hours, these two more. */
    private static void hoursFullFrom(int first, int then, int hours) {
        DummyHunt x = made(PAIR);
        for (int i = 1; i <= 149; i++) {
            due(8, "hour(60)", x.hour(60), 60 * i);
        }
        due(8, "hour(" + first + ")", x.hour(first), 8940 + first);
        due(8, "hour(" + then + ")", x.hour(then), hours);
        if (hours <= 9000) {
            due(8, "hour(1) at " + hours, x.hour(1), hours + 1);
        }
        due(8, "hour(1) above 9000", x.hour(1), FULL);
        due(8, "hour(60) above 9000", x.hour(60), FULL);
        due(8, "hour(0): OUTSIDE ahead of FULL", x.hour(0), OUTSIDE);
        due(8, "hour(61): OUTSIDE ahead of FULL", x.hour(61), OUTSIDE);
        due(14, "drift(1) above 9000", x.drift(1), FULL);
        due(5, "all else goes on: give(0, 0)", x.give(0, 0), 1);
        due(15, "undo() of give", x.undo(), 19);
        due(15, "undo() of the last hours", x.undo(), 18);
        due(8, "there is room again", x.hour(1), x.told(5));
    }

    /** "a COLD lasts H HOURS, 1 .. 99", "CAUGHT .. for H HOURS", "COLDS have an HOUR less". */
    private static void coldLasts() {
        DummyHunt x = made("n1 0;c3 0;");
        due(13, "cold(0)", x.cold(0), 1);
        due(5, "told(7)", x.told(7), 1);
        x.hour(1);
        due(6, "child(0, 4)", x.child(0, 4), 0);
        due(5, "told(7)", x.told(7), 0);
        x.hour(1);
        due(6, "no hour less than none", x.child(0, 4), 0);
        x = made("n99 0;c3 0;c3 0;");
        due(13, "cold(1)", x.cold(1), 99);
        x.hour(60);
        x.hour(38);
        due(6, "child(1, 4)", x.child(1, 4), 1);
        due(5, "told(7)", x.told(7), 2);
        due(13, "cold(1) again", x.cold(1), 99);
        x.hour(60);
        x.hour(39);
        due(6, "child(1, 4)", x.child(1, 4), 0);
        due(5, "told(7)", x.told(7), 0);
    }

    /** "READ can be a mark, if its BOILINGS are fewer than M", M 0 .. 30. */
    private static void marksLast() {
        DummyHunt x = made("n1 0;d0 0 0 9;d0 0 1 9;d0 0 29 9;d0 0 30 9;");
        for (int boilings = 0; boilings <= 32; boilings++) {
            int readable = (boilings < 1 ? 2 : 0) | (boilings < 29 ? 4 : 0) | (boilings < 30 ? 8 : 0);
            due(5, "told(9) after " + boilings, x.told(9), readable);
            due(7, "dummy(3, 5)", x.dummy(3, 5), boilings);
            due(12, "boil()", x.boil(), 15);
        }
        due(15, "undo()", x.undo(), 19);
        for (int i = 0; i < 3; i++) {
            x.undo();
        }
        due(5, "told(9) after 29 again", x.told(9), 8);
        due(7, "dummy(3, 5)", x.dummy(3, 5), 29);
    }

    /** "It TAKES one that is its own; with B 1 .. side .., with B 2 .. colour .., with B 3 any; without an own one only with B 3." */
    private static void takenByHabit() {
        String dummies = "d4 2 0 9;d4 1 0 9;d3 2 0 9;d3 1 0 9;";
        int[] withOwn = {0, 1 | 4, 1 | 2, 15};
        for (int b = 0; b <= 3; b++) {
            for (int owns = 0; owns <= 1; owns++) {
                DummyHunt x = made("n1 0;c" + b + " 0;d4 2 0 " + (owns == 1 ? 0 : 9) + ";" + dummies);
                int taken = owns == 1 ? 1 | withOwn[b] << 1 : b == 3 ? 31 : 0;
                for (int d = 0; d < 5; d++) {
                    int takes = taken >> d & 1;
                    String label = "with B " + b + (owns == 1 ? " and an own one" : " and none") + ", dummy " + d;
                    due(9, label, x.give(d, 0), takes);
                    due(5, label + ": calm", x.told(6), takes);
                    due(6, label + ": it has it", x.child(0, 2), d);
                    due(7, label + ": germs", x.dummy(d, 6), takes);
                    x.hour(1);
                    due(6, label + ": howled", x.child(0, 5), 1 - takes);
                    x.undo();
                    x.drop(d);
                }
                due(18, "wants(0)", x.wants(0), Integer.bitCount(taken));
            }
        }
    }

    /** "each CHILD has one at most", give: "NOT: another one has it, the CHILD has one." */
    private static void oneEachAtMost() {
        DummyHunt x = made("n1 0;c3 0;c0 0;d0 0 0 9;d0 0 0 9;d0 0 0 1;");
        due(9, "give(0, 0)", x.give(0, 0), 1);
        due(9, "the same to the same", x.give(0, 0), NOT);
        due(9, "another to the same", x.give(1, 0), NOT);
        due(9, "the same to another", x.give(0, 1), NOT);
        due(9, "into its hand", x.give(1, 1), 0);
        due(9, "its own, with one in its hand", x.give(2, 1), NOT);
        due(9, "what is in a hand", x.give(1, 0), NOT);
        due(12, "one in the box yet", x.boil(), 4);
        due(10, "drop(1) out of a hand", x.drop(1), 1);
        due(9, "its own now", x.give(2, 1), 1);
        due(9, "from the floor, but it has one", x.give(1, 1), NOT);
        due(10, "drop(0)", x.drop(0), 0);
        due(9, "from the floor", x.give(1, 0), 1);
        due(5, "told(8)", x.told(8), 1);
    }

    /** drop: "NOT: none has it", pick: "NOT: it is not there", "what is on the FLOOR yet (a SET)". */
    private static void floorAndBox() {
        DummyHunt x = made(SIX);
        due(10, "drop(5) in the box", x.drop(5), NOT);
        due(11, "pick(5) in the box", x.pick(5), NOT);
        x.give(5, 5);
        due(11, "pick(5) in a mouth", x.pick(5), NOT);
        due(10, "drop(5)", x.drop(5), 5);
        due(10, "drop(5) on the floor", x.drop(5), NOT);
        x.give(0, 0);
        due(10, "drop(0)", x.drop(0), 0);
        due(5, "told(8)", x.told(8), 33);
        due(11, "pick(0)", x.pick(0), 32);
        due(11, "pick(0) again", x.pick(0), NOT);
        due(11, "pick(5), none is left", x.pick(5), 0);
        due(11, "pick(5) again", x.pick(5), NOT);
        for (int d = 0; d < 6; d++) {
            x.give(d, d);
        }
        for (int d = 0; d < 6; d++) {
            x.drop(d);
        }
        for (int d = 0; d < 6; d++) {
            due(11, "pick(" + d + ")", x.pick(d), 63 & -(2 << d));
        }
    }

    /** boil: "all in the BOX are", "NOT: none is in the BOX." */
    private static void boxEmpty() {
        DummyHunt x = made("n5 0;c3 0;c0 0;d0 0 0 9;d0 0 0 9;");
        due(12, "all of them", x.boil(), 3);
        x.give(0, 0);
        due(12, "the last in the box", x.boil(), 2);
        x.give(1, 1);
        due(12, "mouth and hand", x.boil(), NOT);
        x.drop(1);
        due(12, "mouth and floor", x.boil(), NOT);
        x.drop(0);
        due(12, "floor", x.boil(), NOT);
        due(7, "boilings of 0", x.dummy(0, 5), 1);
        due(7, "boilings of 1", x.dummy(1, 5), 2);
        x.pick(0);
        due(12, "box again", x.boil(), 1);
        due(7, "germs of 0", x.dummy(0, 6), 0);
    }

    /** "if any of the GERMS has a COLD and it has none, it has one, too, for H HOURS; it is one of the GERMS." */
    private static void germsAndColds() {
        DummyHunt x = made("n3 0;c3 0;c3 0;c0 0;d0 0 0 9;");
        x.cold(0);
        x.give(0, 0);
        due(9, "its own germs give it none anew", x.child(0, 4), 3);
        x.hour(2);
        x.drop(0);
        x.give(0, 2);
        due(9, "in the hand: no cold", x.told(7), 1);
        due(9, "in the hand: no germs", x.dummy(0, 6), 1);
        x.drop(0);
        x.give(0, 1);
        due(9, "in the last hour of it", x.child(1, 4), 3);
        due(9, "both", x.dummy(0, 6), 3);
        x.undo();
        x.hour(1);
        x.give(0, 1);
        due(9, "an hour later there is none", x.child(1, 4), 0);
        due(9, "germs without a cold stay", x.dummy(0, 6), 3);
        x.drop(0);
        x.cold(0);
        x.cold(1);
        x.hour(1);
        x.give(0, 1);
        due(9, "who has one keeps its hours", x.child(1, 4), 2);
        x.drop(0);
        x.pick(0);
        x.boil();
        due(12, "no germs", x.dummy(0, 6), 0);
        x.hour(2);
        x.cold(0);
        x.give(0, 1);
        due(9, "boiled: no cold", x.child(1, 4), 0);
    }

    /** "the latest of hour(), give(), drop(), pick(), boil(), cold(), drift() .. all of section 2 is as ahead of it; THE SEED stays". */
    private static void undoEach() {
        DummyHunt x = made("n5 100;c3 0;d0 0 1 9;");
        x.give(0, 0);
        due(5, "told(12) behind give()", x.told(12), 1);
        x.hour(1);
        due(5, "told(12) behind hour()", x.told(12), 2);
        x.drop(0);
        due(5, "told(12) behind drop()", x.told(12), 3);
        x.pick(0);
        due(5, "told(12) behind pick()", x.told(12), 4);
        x.boil();
        due(5, "told(12) behind boil()", x.told(12), 5);
        x.cold(0);
        due(5, "told(12) behind cold()", x.told(12), 6);
        x.hour(5);
        x.drift(1);
        due(5, "told(12) behind drift()", x.told(12), 8);
        due(14, "caught a cold", x.child(0, 4), 4);
        due(15, "undo() of drift()", x.undo(), 7);
        due(15, "no cold", x.child(0, 4), 0);
        due(15, "hours", x.told(5), 6);
        due(15, "undo() of hour()", x.undo(), 6);
        due(15, "the cold again", x.child(0, 4), 5);
        due(15, "howled", x.child(0, 5), 0);
        due(15, "undo() of cold()", x.undo(), 5);
        due(15, "no cold", x.child(0, 4), 0);
        due(15, "a boiling", x.dummy(0, 5), 1);
        due(15, "no germs", x.dummy(0, 6), 0);
        due(15, "undo() of boil()", x.undo(), 4);
        due(15, "no boiling", x.dummy(0, 5), 0);
        due(15, "germs again", x.dummy(0, 6), 1);
        due(15, "in the box", x.dummy(0, 7), 0);
        due(15, "undo() of pick()", x.undo(), 3);
        due(15, "on the floor", x.dummy(0, 7), 1);
        due(15, "undo() of drop()", x.undo(), 2);
        due(15, "who has it", x.dummy(0, 4), 0);
        due(15, "undo() of hour()", x.undo(), 1);
        due(15, "hours", x.told(5), 0);
        due(15, "undo() of give()", x.undo(), 0);
        due(15, "in the box", x.dummy(0, 7), 0);
        due(15, "no germs", x.dummy(0, 6), 0);
        long s = 0;
        for (int i = 0; i < 4; i++) {
            s = nextSeed(s);
        }
        due(15, "the seed stays", x.seed(0), s);
    }

    /** "(20 at most are kept, the oldest are lost)", undo: "how many more can be. NOT: none." */
    private static void undoTwenty() {
        for (int deeds = 0; deeds <= 45; deeds++) {
            DummyHunt x = made(PAIR);
            for (int i = 1; i <= deeds; i++) {
                x.hour(1);
                due(5, "told(12) after " + i, x.told(12), Math.min(i, 20));
            }
            for (int left = Math.min(deeds, 20) - 1; left >= 0; left--) {
                due(15, "undo() after " + deeds, x.undo(), left);
            }
            due(15, "hours that stay of " + deeds, x.told(5), Math.max(0, deeds - 20));
            due(15, "undo() of none after " + deeds, x.undo(), NOT);
            due(5, "told(12)", x.told(12), 0);
            due(15, "undo() of none again", x.undo(), NOT);
        }
    }

    /** Deeds behind undone ones take their place, and the oldest are lost still. */
    private static void undoWrapsAround() {
        DummyHunt x = made(PAIR);
        for (int i = 0; i < 33; i++) {
            x.hour(1);
        }
        for (int i = 0; i < 5; i++) {
            x.undo();
        }
        due(15, "told(5)", x.told(5), 28);
        due(5, "told(12)", x.told(12), 15);
        for (int i = 0; i < 5; i++) {
            x.hour(10);
        }
        due(5, "told(12) is full", x.told(12), 20);
        x.hour(10);
        due(5, "told(12) is full still", x.told(12), 20);
        for (int left = 19; left >= 14; left--) {
            due(15, "undo()", x.undo(), left);
        }
        due(15, "told(5)", x.told(5), 28);
        for (int left = 13; left >= 0; left--) {
            due(15, "undo()", x.undo(), left);
        }
        due(15, "told(5)", x.told(5), 14);
        due(15, "undo()", x.undo(), NOT);
    }

    /** keep, goBack: "(nothing can be undone then)"; calls that are none of those named cannot be undone. */
    private static void undoGone() {
        DummyHunt x = made(PAIR);
        x.seed(5);
        x.trial(0, 0, true);
        x.write(0, 0);
        x.tear();
        x.mostCalm(true, 0);
        x.next();
        due(5, "told(12)", x.told(12), 0);
        x.hour(1);
        x.keep(1);
        due(31, "undo() behind keep()", x.undo(), NOT);
        x.hour(1);
        x.hour(1);
        x.goBack(1);
        due(32, "undo() behind goBack()", x.undo(), NOT);
        due(32, "told(5)", x.told(5), 1);
        x.hour(1);
        due(15, "undo() of what came then", x.undo(), 0);
        due(15, "told(5)", x.told(5), 1);
    }

    /** "THE SEED (.. each DRAW it becomes it times 1103515245 and 12345, left over by 2 to the 31". */
    private static void driftDrawsWrap() {
        for (int start : new int[] {0, 1, 2, 65535, 65536, 1 << 30, MOST - 1, MOST}) {
            DummyHunt x = made("n5 0;c3 0;d0 0 0 9;");
            due(30, "seed(" + start + ")", x.seed(start), 0);
            BigInteger s = BigInteger.valueOf(start);
            for (int i = 0; i < 4 * 60; i++) {
                s = s.multiply(BigInteger.valueOf(1103515245)).add(BigInteger.valueOf(12345)).mod(BigInteger.ONE.shiftLeft(31));
            }
            x.drift(60);
            due(14, "the seed behind 240 draws from " + start, x.seed(0), s.intValueExact());
        }
    }

    private static long nextSeed(long s) {
        return (s * 1103515245L + 12345L) % (1L << 31);
    }

    /** "a DRAW of 100: below Q that CHILD has CAUGHT a COLD": Q 0 nobody, Q 100 always, and the draw itself and one more. */
    private static void driftEnds() {
        for (int start = 1; start <= 40; start++) {
            long s = start;
            int deed = 0;
            for (int i = 0; i < 4; i++) {
                s = nextSeed(s);
                deed = i == 2 ? (int) (s / 65536 % 4) : deed;
            }
            int draw = (int) (s / 65536 % 100);
            for (int q : new int[] {0, draw, draw + 1, 100}) {
                DummyHunt x = made("n5 " + q + ";c3 0;d0 0 0 9;");
                x.seed(start);
                due(14, "drift(1) from " + start, x.drift(1), deed >= 2 ? 1 : 0);
                due(14, "what is in the box, by deed " + deed, x.dummy(0, 7), deed >= 2 ? 2 : 0);
                due(14, "a draw of " + draw + " by Q " + q, x.child(0, 4), draw < q ? 4 : 0);
                x.undo();
                x.seed(start);
                x.give(0, 0);
                x.drift(1);
                due(14, "what has it, by deed " + deed, x.dummy(0, 7), deed == 0 ? 1 : 2);
                x.undo();
                x.drop(0);
                x.seed(start);
                x.drift(1);
                due(14, "what lies there, by deed " + deed, x.dummy(0, 7), deed == 0 ? 1 : deed == 1 ? 0 : 2);
            }
        }
    }

    /** mostCalm: "c = NONE how many, else a DUMMY; NONE"; none, one, all; "none last". */
    private static void mostCalmEdges() {
        DummyHunt x = made(SIX);
        due(16, "all six", x.mostCalm(false, NONE), 6);
        for (int c = 0; c < 6; c++) {
            due(16, "mostCalm(false, " + c + ")", x.mostCalm(false, c), c);
        }
        for (int c : new int[] {LEAST, -2, 6, MOST}) {
            due(16, "mostCalm(false, " + c + ")", x.mostCalm(false, c), UNKNOWN);
            due(16, "mostCalm(true, " + c + ")", x.mostCalm(true, c), UNKNOWN);
        }
        x = made("n1 0;c0 0;c1 0;c2 0;d0 0 0 9;d0 0 0 9;");
        due(16, "nobody takes one", x.mostCalm(false, NONE), 0);
        due(16, "mostCalm(false, 2)", x.mostCalm(false, 2), NONE);
        x = made("n1 0;c3 0;c3 0;c3 0;c3 0;c3 0;c3 0;d0 0 0 9;");
        due(16, "one for six", x.mostCalm(false, NONE), 1);
        due(16, "the first has it", x.mostCalm(false, 0), 0);
        due(16, "the last has none", x.mostCalm(false, 5), NONE);
        x = made("n1 0;c3 0;d0 0 0 9;d0 0 0 9;d0 0 0 9;d0 0 0 9;d0 0 0 9;d0 0 0 9;");
        due(16, "six for one", x.mostCalm(false, NONE), 1);
        due(16, "the lesser", x.mostCalm(false, 0), 0);
        x = made("n1 0;c3 0;c0 0;d0 0 0 1;");
        due(16, "of like ones the first child has it", x.mostCalm(false, 0), 0);
        due(16, "its owner has none", x.mostCalm(false, 1), NONE);
        x = made(SIX);
        x.mostCalm(false, NONE);
        feedAll(x, "n1 0;c0 0;c3 0;d0 0 0 9;");
        due(3, "a nursery of fewer", x.nursery(), 2);
        due(16, "nothing is left of the one ahead", x.mostCalm(false, NONE), 1);
        due(16, "mostCalm(false, 0)", x.mostCalm(false, 0), NONE);
        due(16, "mostCalm(false, 1)", x.mostCalm(false, 1), 0);
        due(16, "mostCalm(false, 2)", x.mostCalm(false, 2), UNKNOWN);
    }

    /** "no DUMMY in whose GERMS one has a COLD, to a CHILD that has none." */
    private static void safeEdges() {
        DummyHunt x = made("n2 0;c3 0;c3 0;d0 0 0 9;");
        x.give(0, 1);
        due(16, "germs, no cold", x.mostCalm(true, 0), 0);
        x.cold(1);
        due(16, "germs and a cold", x.mostCalm(true, 0), NONE);
        due(16, "to the one that has it", x.mostCalm(true, 1), 0);
        x.hour(1);
        due(16, "the last hour of it", x.mostCalm(true, 0), NONE);
        x.hour(1);
        due(16, "it is over", x.mostCalm(true, 0), 0);
        x.cold(0);
        x.cold(1);
        due(16, "who has a cold may have it", x.mostCalm(true, 0), 0);
        x.hour(2);
        x.cold(1);
        due(16, "how many", x.mostCalm(true, NONE), 1);
        x.drop(0);
        x.pick(0);
        x.boil();
        due(16, "boiled", x.mostCalm(true, 0), 0);
        x = made("n2 0;c0 0;c3 0;c3 0;d0 0 0 9;d0 0 0 0;");
        x.give(0, 2);
        x.cold(0);
        due(16, "a cold of one that is none of the germs", x.mostCalm(true, 1), 0);
        x.cold(2);
        due(16, "a cold of one of the germs", x.mostCalm(true, 1), NONE);
        due(16, "that one itself", x.mostCalm(true, 2), 0);
        due(16, "not safe", x.mostCalm(false, 1), 0);
    }

    /** "pairs of CHILDREN (10 times the lesser and the other; rising) .. how many; the i-th; NONE." */
    private static void tradesEdges() {
        DummyHunt x = made("n1 0;c1 0;c1 0;c1 0;c1 0;c1 0;c1 0;d0 0 0 0;d0 0 0 1;d0 0 0 2;d0 1 0 3;d0 1 0 4;d0 1 0 5;");
        due(17, "nobody has one", x.trades(NONE), 0);
        due(17, "the first of none", x.trades(0), NONE);
        x.give(3, 0);
        due(17, "but one has one", x.trades(NONE), 0);
        x.give(0, 3);
        due(17, "one pair", x.trades(NONE), 1);
        due(17, "trades(0)", x.trades(0), 3);
        due(17, "trades(1)", x.trades(1), NONE);
        x.give(4, 1);
        x.give(5, 2);
        x.give(1, 4);
        x.give(2, 5);
        due(17, "nine pairs", x.trades(NONE), 9);
        int[] pairs = {3, 4, 5, 13, 14, 15, 23, 24, 25};
        for (int i = 0; i < 9; i++) {
            due(17, "trades(" + i + ")", x.trades(i), pairs[i]);
        }
        for (int i : new int[] {LEAST, UNKNOWN, -2, 9, 10, MOST}) {
            due(17, "trades(" + i + ")", x.trades(i), NONE);
        }
        x = made("n1 0;c3 0;c0 0;c0 0;d0 0 0 9;d0 0 0 1;");
        x.give(1, 0);
        x.give(0, 1);
        due(17, "one is calm, both would be", x.trades(NONE), 1);
        x = made("n1 0;c0 0;c0 0;c0 0;d0 0 0 0;d0 0 0 1;d0 0 0 2;");
        x.give(1, 0);
        x.give(2, 1);
        due(17, "none is calm, one would be", x.trades(0), 1);
        x.give(0, 2);
        due(17, "none is calm, one each would be", x.trades(NONE), 3);
        x = made("n1 0;c3 0;c3 0;d0 0 0 9;d0 0 0 9;");
        x.give(1, 0);
        x.give(0, 1);
        due(17, "both are calm", x.trades(NONE), 0);
        x = made("n1 0;c3 0;c0 0;d0 0 0 9;d0 0 0 9;");
        x.give(1, 0);
        x.give(0, 1);
        due(17, "as many would be as are", x.trades(NONE), 0);
    }

    /** "WANTS: how many DUMMIES a CHILD TAKES; WANTED: how many CHILDREN TAKE a DUMMY": none and all. */
    private static void wantsEdges() {
        DummyHunt x = made("n1 0;c3 0;c3 0;c3 0;c3 0;c3 0;c3 0;d0 0 0 9;d0 0 0 9;d0 0 0 9;d0 0 0 9;d0 0 0 9;d0 0 0 9;");
        due(18, "wants(5)", x.wants(5), 6);
        due(19, "wanted(5)", x.wanted(5), 6);
        x.give(5, 0);
        due(18, "what one has counts, too", x.wants(5), 6);
        x = made("n1 0;c0 0;c1 0;c2 0;d0 0 0 9;");
        due(18, "without an own one", x.wants(0) + x.wants(1) + x.wants(2), 0);
        due(19, "a spare one", x.wanted(0), 0);
    }

    private static DummyHunt withOneOnTheFloor() {
        DummyHunt x = made(PAIR);
        x.give(0, 0);
        x.drop(0);
        return x;
    }

    /** "n things (1 .. 20)", "k times (0 .. 60)", "p 0 .. 100"; "OUTSIDE, NOT: none is on the FLOOR." */
    private static void lostBounds() {
        int[] low = {LEAST, -1, 0};
        int[] nHigh = {21, 22, MOST};
        int[] pOut = {LEAST, -1, 101, MOST};
        int[] kOut = {LEAST, -1, 61, MOST};
        for (DummyHunt x : new DummyHunt[] {withOneOnTheFloor(), made(PAIR), new DummyHunt()}) {
            for (int i = 0; i < 3; i++) {
                due(20, "lost(" + low[i] + ", 1, 1)", x.lost(low[i], 1, 1), OUTSIDE);
                due(20, "lost(" + nHigh[i] + ", 1, 1)", x.lost(nHigh[i], 1, 1), OUTSIDE);
            }
            for (int i = 0; i < 4; i++) {
                due(20, "lost(1, " + pOut[i] + ", 1)", x.lost(1, pOut[i], 1), OUTSIDE);
                due(20, "lost(1, 1, " + kOut[i] + ")", x.lost(1, 1, kOut[i]), OUTSIDE);
                due(20, "all three outside", x.lost(0, pOut[i], kOut[i]), OUTSIDE);
            }
        }
        DummyHunt x = made(PAIR);
        due(20, "in the box", x.lost(1, 100, 1), NOT);
        x.give(0, 0);
        due(20, "in a mouth", x.lost(20, 0, 60), NOT);
        x.drop(0);
        due(20, "on the floor", x.lost(1, 100, 1), BILLION);
        x.pick(0);
        due(20, "picked up", x.lost(1, 100, 1), NOT);
    }

    /** "under each with a BILLION / n (cut)", "round and round", "times p / 100 (cut ..) is found: how much is found in all". */
    private static void lostEdges() {
        DummyHunt x = withOneOnTheFloor();
        for (int n = 1; n <= 20; n++) {
            due(20, "not looked for, " + n, x.lost(n, 100, 0), 0);
            due(20, "never found, " + n, x.lost(n, 0, 60), 0);
            due(20, "one look, " + n, x.lost(n, 100, 1), BILLION / n);
            due(20, "one look too few, " + n, x.lost(n, 100, n - 1), BILLION / n * (n - 1));
            due(20, "a look each, " + n, x.lost(n, 100, n), BILLION / n * n);
            due(20, "one look more, " + n, x.lost(n, 100, n + 1), BILLION / n * n);
            due(20, "all looks, " + n, x.lost(n, 100, 60), BILLION / n * n);
        }
        due(20, "three, cut", x.lost(3, 100, 60), 999999999);
        due(20, "one hundredth, three rounds", x.lost(20, 1, 60), 20 * (500000 + 495000 + 490050));
        due(20, "99 of a hundred, twice", x.lost(1, 99, 2), 990000000 + 9900000);
        due(20, "halves, until one is left", x.lost(1, 50, 60), 999999999);
        due(20, "the cut of what lies there", x.lost(7, 1, 8), 7 * 1428571 + 1414285);
        due(20, "what is looked for twice is whole again", x.lost(7, 1, 8), 7 * 1428571 + 1414285);
    }

    /** "by how many fewer MOST CALM would be without a DUMMY." */
    private static void sparesEdges() {
        DummyHunt x = made(SIX);
        for (int d = 0; d < 6; d++) {
            due(21, "spares(" + d + ")", x.spares(d), 1);
        }
        due(21, "spares(6)", x.spares(6), UNKNOWN);
        x = made("n1 0;c3 0;d0 0 0 9;d0 0 0 9;");
        due(21, "either is to spare", x.spares(0) + x.spares(1), 0);
        x = made("n1 0;c0 0;d0 0 0 9;");
        due(21, "nobody takes it", x.spares(0), 0);
        x = made("n1 0;c3 0;c3 0;d0 0 0 9;");
        due(21, "the only one", x.spares(0), 1);
        x = made("n1 0;c3 0;c3 0;d0 0 0 9;d0 0 0 9;");
        for (int d = 0; d < 2; d++) {
            x.give(d, 1);
            x.drop(d);
        }
        x.cold(1);
        due(16, "one alone is safe", x.mostCalm(true, NONE), 1);
        due(21, "safe or not", x.spares(0), 1);
    }

    /** "OFF: 100 less A HOURS, twice that for B 3.", "QUIET: .. in n HOURS (0 .. 60) .. (cut)". */
    private static void offQuietEdges() {
        for (int b = 0; b <= 3; b++) {
            DummyHunt x = made("n1 0;c" + b + " 0;c" + b + " 60;");
            due(22, "A 0, B " + b, x.off(0), b == 3 ? 200 : 100);
            due(22, "A 60, B " + b, x.off(1), b == 3 ? 80 : 40);
        }
        DummyHunt x = made("n1 50;");
        for (int n : new int[] {LEAST, -60, -1, 61, 62, MOST}) {
            due(23, "quiet(" + n + ")", x.quiet(n), OUTSIDE);
        }
        due(23, "quiet(0)", x.quiet(0), BILLION);
        due(23, "quiet(1)", x.quiet(1), BILLION / 2);
        due(23, "quiet(29)", x.quiet(29), 1);
        due(23, "quiet(30) is cut", x.quiet(30), 0);
        due(23, "quiet(60)", x.quiet(60), 0);
        x = made("n1 0;");
        due(23, "Q 0: quiet(0)", x.quiet(0), BILLION);
        due(23, "Q 0: quiet(60)", x.quiet(60), BILLION);
        x = made("n1 100;");
        due(23, "Q 100: quiet(0)", x.quiet(0), BILLION);
        due(23, "Q 100: quiet(1)", x.quiet(1), 0);
        due(23, "Q 100: quiet(60)", x.quiet(60), 0);
        x = made("n1 99;");
        due(23, "Q 99: quiet(4)", x.quiet(4), 10);
        due(23, "Q 99: quiet(5) is cut", x.quiet(5), 0);
        x = made("n1 1;");
        due(23, "Q 1: cut each time", x.quiet(6), 941480148);
    }

    /** "TRIED (8 at most)", "UNKNOWN, FULL (8)." in this order. */
    private static void triedEight() {
        DummyHunt x = made("n1 0;c0 0;c0 0;d0 0 0 9;d0 0 0 9;");
        for (int i = 1; i <= 8; i++) {
            due(24, "trial(1, 1, true)", x.trial(1, 1, true), i);
            due(5, "told(10)", x.told(10), i);
        }
        due(24, "a ninth", x.trial(1, 1, true), FULL);
        due(24, "a ninth that would leave none", x.trial(1, 1, false), FULL);
        due(24, "UNKNOWN child ahead of FULL", x.trial(2, 1, true), UNKNOWN);
        due(24, "UNKNOWN dummy ahead of FULL", x.trial(1, 2, true), UNKNOWN);
        due(24, "both UNKNOWN ahead of FULL", x.trial(-1, -1, false), UNKNOWN);
        due(5, "told(10)", x.told(10), 8);
        due(25, "whose(-1)", x.whose(NONE), 1);
        due(28, "tear()", x.tear(), 8);
        due(24, "the first again", x.trial(0, 0, false), 1);
        for (int i = 2; i <= 7; i++) {
            x.trial(0, 0, false);
        }
        due(24, "the eighth counts", x.trial(1, 0, false), 8);
        due(25, "whose(-1)", x.whose(NONE), 0);
    }

    /** whose: "c = NONE how many, else a DUMMY; NONE. UNKNOWN, NOT: fewer DUMMIES than CHILDREN." */
    private static void whoseEdges() {
        int[] ways = {1, 6, 30, 120, 360, 720, 720};
        for (int children = 0; children <= 6; children++) {
            for (int dummies = 5; dummies <= 6; dummies++) {
                DummyHunt x = made("n1 0;" + "c0 0;".repeat(children) + "d0 0 0 9;".repeat(dummies));
                int[] five = {1, 5, 20, 60, 120, 120, NOT};
                int want = dummies == 6 ? ways[children] : five[children];
                due(25, children + " of " + dummies, x.whose(NONE), want);
                due(25, "UNKNOWN ahead of NOT", x.whose(children), UNKNOWN);
                due(25, "UNKNOWN ahead of NOT", x.whose(-2), UNKNOWN);
                due(25, "the last child", children == 0 ? NONE : x.whose(children - 1), want == NOT ? NOT : NONE);
                due(26, "next()", x.next(), want == NOT ? NOT : children == 0 ? NONE : 0);
            }
        }
        DummyHunt x = made("n1 0;c0 0;d0 0 0 9;");
        due(25, "one way", x.whose(NONE), 1);
        due(25, "it is sure", x.whose(0), 0);
        x.trial(0, 0, false);
        due(25, "no way", x.whose(NONE), 0);
        due(25, "of no way none", x.whose(0), NONE);
        due(26, "of no way none", x.next(), NONE);
        x = made("n1 0;c0 0;c0 0;d0 0 0 0;d0 0 0 1;");
        x.trial(0, 1, true);
        due(25, "whatever is told of O", x.whose(0), 1);
        due(25, "the other has what is left", x.whose(1), 0);
    }

    /** "the greatest part that is alike is least; of like ones the least; NONE: none parts them." */
    private static void nextEdges() {
        DummyHunt x = made("n1 0;c3 0;c3 0;d0 0 0 9;d1 1 0 9;");
        due(26, "two ways, none parts them", x.whose(NONE), 2);
        due(26, "next()", x.next(), NONE);
        x = made("n1 0;c1 0;c2 0;d0 0 0 9;d0 0 0 9;");
        due(26, "all alike", x.next(), NONE);
        x = made("n1 0;c0 0;d0 0 0 9;");
        due(26, "one way", x.next(), NONE);
        x = made("n1 0;c3 0;c3 0;c3 0;c3 0;c3 0;c0 0;d0 0 0 9;d0 0 0 9;d0 0 0 9;d0 0 0 9;d0 0 0 9;d0 0 0 9;");
        due(26, "the last child alone tells them apart", x.next(), 50);
        for (int d = 0; d < 4; d++) {
            x.trial(5, d, false);
            due(26, "next() behind " + d, x.next(), 50 + d + 1);
        }
        x.trial(5, 4, false);
        due(26, "it has the last one", x.next(), NONE);
        due(25, "whose(5)", x.whose(5), 5);
        x = made("n1 0;c0 0;c1 0;d0 0 0 9;d0 0 0 9;d0 1 0 9;d0 1 0 9;");
        due(26, "halves are better than quarters", x.next(), 10);
    }

    /** "THE BOOK (15 at most)", write: "UNKNOWN (c NONE: nobody), FULL (15)." in this order; tear: "how much both had". */
    private static void bookFifteen() {
        DummyHunt x = made(SIX);
        due(28, "tear() of nothing", x.tear(), 0);
        for (int i = 1; i <= 15; i++) {
            due(27, "write(5, -1)", x.write(5, NONE), i);
            due(5, "told(11)", x.told(11), i);
        }
        due(27, "a sixteenth", x.write(5, NONE), FULL);
        due(27, "a sixteenth that would be wrong", x.write(5, 5), FULL);
        due(27, "UNKNOWN dummy ahead of FULL", x.write(6, 5), UNKNOWN);
        due(27, "UNKNOWN child ahead of FULL", x.write(5, 6), UNKNOWN);
        due(27, "UNKNOWN child ahead of FULL", x.write(5, -2), UNKNOWN);
        due(5, "told(11)", x.told(11), 15);
        due(29, "judge()", x.judge(), NONE);
        for (int i = 1; i <= 8; i++) {
            x.trial(5, 5, true);
        }
        due(28, "tear() of both full", x.tear(), 23);
        due(28, "tear() again", x.tear(), 0);
        due(5, "told(10)", x.told(10), 0);
        due(5, "told(11)", x.told(11), 0);
        due(27, "the first again", x.write(0, 0), 1);
        due(28, "the book alone", x.tear(), 1);
        x.trial(0, 0, true);
        due(28, "what was tried alone", x.tear(), 1);
    }

    /** "WRONG: the first that is otherwise now; NONE." */
    private static void judgeEdges() {
        DummyHunt x = made(SIX);
        due(29, "an empty book", x.judge(), NONE);
        for (int i = 0; i < 14; i++) {
            x.write(5, NONE);
        }
        x.write(0, 1);
        due(29, "the last of fifteen", x.judge(), 14);
        x.give(0, 1);
        due(29, "in a hand is had", x.judge(), NONE);
        x.give(5, 5);
        due(29, "the first", x.judge(), 0);
        x.drop(5);
        due(29, "on the floor nobody has it", x.judge(), NONE);
        x.drop(0);
        due(29, "nobody has it now", x.judge(), 14);
        x.give(0, 0);
        due(29, "another has it", x.judge(), 14);
    }

    /** "THE SEED becomes v (0 .. 2147483647): what it was. OUTSIDE.", "(0 at first". */
    private static void seedBounds() {
        DummyHunt x = new DummyHunt();
        due(30, "seed(-1)", x.seed(-1), OUTSIDE);
        due(30, "seed(least)", x.seed(LEAST), OUTSIDE);
        due(30, "seed(most): 0 at first", x.seed(MOST), 0);
        due(30, "seed(-1)", x.seed(-1), OUTSIDE);
        due(30, "seed(0)", x.seed(0), MOST);
        due(30, "seed(1)", x.seed(1), 0);
        due(30, "seed(1)", x.seed(1), 1);
    }

    /** "IMAGES 0, 1 keep all of section 2, THE SEED.", goBack: "UNKNOWN, NOT: it was not kept." */
    private static void imageBounds() {
        DummyHunt x = made(SIX);
        for (int i : new int[] {LEAST, -2, -1, 2, 3, MOST}) {
            due(31, "keep(" + i + ")", x.keep(i), UNKNOWN);
            due(32, "UNKNOWN ahead of NOT: goBack(" + i + ")", x.goBack(i), UNKNOWN);
        }
        due(32, "goBack(0)", x.goBack(0), NOT);
        due(32, "goBack(1)", x.goBack(1), NOT);
        x.seed(11);
        x.give(5, 5);
        x.cold(5);
        x.hour(1);
        due(31, "keep(1)", x.keep(1), 1);
        due(32, "the other was not kept", x.goBack(0), NOT);
        x.drop(5);
        x.pick(5);
        x.boil();
        x.hour(60);
        x.seed(12);
        due(31, "keep(0)", x.keep(0), 1);
        due(32, "goBack(1)", x.goBack(1), 1);
        due(32, "hours", x.told(5), 1);
        due(32, "who has the last", x.dummy(5, 4), 5);
        due(32, "germs of the last", x.dummy(5, 6), 32);
        due(32, "boilings of the first", x.dummy(0, 5), 0);
        due(32, "cold of the last", x.child(5, 4), 4);
        due(32, "howled by the first", x.child(0, 5), 1);
        due(32, "the seed", x.seed(13), 11);
        due(32, "goBack(0)", x.goBack(0), 1);
        due(32, "hours", x.told(5), 61);
        due(32, "the last is in the box", x.dummy(5, 7), 0);
        due(32, "without germs", x.dummy(5, 6), 0);
        due(32, "boilings of the first", x.dummy(0, 5), 1);
        due(32, "howled by the last", x.child(5, 5), 60);
        due(32, "the seed", x.seed(13), 12);
        x.hour(1);
        due(31, "keep(0) again", x.keep(0), 1);
        x.hour(1);
        x.goBack(0);
        due(31, "it is the later one", x.told(5), 62);
        due(32, "the seed of the later one", x.seed(0), 13);
    }

    /** nursery: "(HOUR 0, all in the BOX, no COLDS; nothing TRIED, no BOOK; IMAGES, what could be undone are gone; THE SEED stays)". */
    private static void nurseryForgets() {
        DummyHunt x = made(SIX);
        x.seed(MOST);
        x.keep(0);
        x.keep(1);
        for (int k = 0; k < 6; k++) {
            x.give(k, k);
            x.cold(k);
            x.trial(k, k, false);
            x.write(k, NONE);
        }
        x.drop(5);
        x.drop(4);
        x.pick(4);
        x.boil();
        x.hour(60);
        x.cold(5);
        feedAll(x, SIX);
        due(3, "nursery()", x.nursery(), 6);
        for (int what = 4; what <= 12; what++) {
            due(3, "told(" + what + ")", x.told(what), what == 9 ? 63 : 0);
        }
        for (int k = 0; k < 6; k++) {
            due(3, "dummy(" + k + ", 5)", x.dummy(k, 5), 0);
            due(3, "dummy(" + k + ", 6)", x.dummy(k, 6), 0);
            due(3, "dummy(" + k + ", 7)", x.dummy(k, 7), 0);
            due(3, "child(" + k + ", 2)", x.child(k, 2), NONE);
            due(3, "child(" + k + ", 4)", x.child(k, 4), 0);
            due(3, "child(" + k + ", 5)", x.child(k, 5), 0);
        }
        due(3, "undo()", x.undo(), NOT);
        due(3, "goBack(0)", x.goBack(0), NOT);
        due(3, "goBack(1)", x.goBack(1), NOT);
        due(3, "whose(-1)", x.whose(NONE), 720);
        due(3, "judge()", x.judge(), NONE);
        due(3, "the seed stays", x.seed(0), MOST);
    }
}

/** Each promise with ordinary inputs, its edges and wrong inputs; the answers are worked out by hand from the document. */
public final class PromiseTest {
    private static final int NONE = -1, UNKNOWN = -1000000001, OUTSIDE = -1000000002, NOT = -1000000003, FULL = -1000000004;
    private static final String FOUR = "n5 10;c0 6;c1 10;c2 20;c3 30;d1 0 2 0;d1 1 1 1;d2 1 0 2;d2 0 9 9;";
    private static final int[] WILD = {Integer.MIN_VALUE, -1000000001, -2, -1, 0, 1, 5, 6, 7, 60, 61, 255, 256, Integer.MAX_VALUE};

    private static int wrong = 0;

    private static void due(int promise, String call, long got, long want) {
        if (got != want) {
            wrong++;
            System.out.println("promise " + promise + ": " + call + " answered " + got + ", due is " + want);
        }
    }

    private static void feedAll(DummyHunt x, String text) {
        for (int i = 0; i < text.length(); i++) {
            x.feed(text.charAt(i));
        }
    }

    private static DummyHunt made(String text) {
        DummyHunt x = new DummyHunt();
        feedAll(x, text);
        if (x.nursery() < 0) {
            wrong++;
            System.out.println("refused: " + text);
        }
        return x;
    }

    private static void read(String text, int answer, int fault) {
        DummyHunt x = new DummyHunt();
        feedAll(x, text);
        due(3, "nursery() of '" + text + "'", x.nursery(), answer);
        due(4, "fault() of '" + text + "'", x.fault(), fault);
        due(5, "told(4) behind '" + text + "'", x.told(4), 0);
    }

    public static void main(String[] args) {
        newObject();
        feeding();
        soundTexts();
        blankTexts();
        faults();
        nurseryResets();
        toldChildDummy();
        hours();
        givenDroppedPicked();
        boiled();
        colds();
        drifting();
        undone();
        calm();
        traded();
        wantsWanted();
        lostThings();
        sparesOffQuiet();
        riddles();
        books();
        seedsImages();
        wildArguments();
        System.out.println(wrong == 0 ? "all answers are as due" : wrong + " answers are not as due");
        if (wrong != 0) {
            System.exit(1);
        }
    }

    private static void newObject() {
        DummyHunt x = new DummyHunt();
        for (int what = 0; what <= 12; what++) {
            due(1, "told(" + what + ")", x.told(what), 0);
        }
        due(1, "fault()", x.fault(), NONE);
        due(1, "child(0, 0)", x.child(0, 0), UNKNOWN);
        due(1, "dummy(0, 0)", x.dummy(0, 0), UNKNOWN);
        due(1, "seed(1)", x.seed(1), 0);
        due(1, "hour(1)", x.hour(1), NOT);
        due(1, "hour(0)", x.hour(0), OUTSIDE);
        due(1, "drift(1)", x.drift(1), NOT);
        due(1, "drift(61)", x.drift(61), OUTSIDE);
        due(1, "goBack(0)", x.goBack(0), NOT);
        due(1, "keep(0)", x.keep(0), 1);
        due(1, "goBack(0)", x.goBack(0), 1);
        due(1, "nursery()", x.nursery(), 0);
        due(1, "hour(1)", x.hour(1), NOT);
        due(1, "goBack(0)", x.goBack(0), NOT);
    }

    private static void feeding() {
        DummyHunt x = new DummyHunt();
        due(2, "feed(-1)", x.feed(-1), OUTSIDE);
        due(2, "feed(256)", x.feed(256), OUTSIDE);
        due(2, "feed(0)", x.feed(0), 1);
        due(2, "feed(255)", x.feed(255), 2);
        for (int i = 3; i <= 240; i++) {
            due(2, "feed(32)", x.feed(32), i);
        }
        due(2, "feed(32)", x.feed(32), FULL);
        due(2, "feed(256) when full", x.feed(256), OUTSIDE);
        due(2, "told(4)", x.told(4), 240);
        due(2, "nursery()", x.nursery(), -11);
        due(2, "fault()", x.fault(), 0);
        due(2, "feed(110)", x.feed(110), 1);
    }

    private static void soundTexts() {
        read("", 0, NONE);
        read("n1 0;", 0, NONE);
        read("  n  99   100  ;  ", 0, NONE);
        read("n001 000;c 003 060;", 1, NONE);
        read("n1 0;c0 0;c0 0;c0 0;c0 0;c0 0;c0 0;", 6, NONE);
        read("n1 0;d9 3 30 9;d0 0 0 9;d0 0 0 009;", 0, NONE);
        read("n1 0;d0 0 0 9;c0 0;d0 0 0 0;", 1, NONE);
        StringBuilder full = new StringBuilder("n1 0;");
        while (full.length() < 240) {
            full.append(' ');
        }
        read(full.toString(), 0, NONE);
    }

    /** A text without a word has no fault and tells no nursery, as an empty one. */
    private static void blankTexts() {
        read(" ", 0, NONE);
        read("   ", 0, NONE);
        read(" ".repeat(240), 0, NONE);
        DummyHunt x = made(FOUR);
        x.seed(77);
        x.hour(2);
        x.keep(1);
        x.hour(2);
        x.trial(0, 0, true);
        x.write(0, 0);
        feedAll(x, "x");
        x.nursery();
        feedAll(x, "  ");
        due(3, "nursery() of blanks", x.nursery(), 0);
        due(4, "fault() of blanks behind a fault", x.fault(), NONE);
        for (int what = 0; what <= 12; what++) {
            due(3, "told(" + what + ") behind blanks", x.told(what), 0);
        }
        due(3, "hour(1) behind blanks", x.hour(1), NOT);
        due(3, "drift(1) behind blanks", x.drift(1), NOT);
        due(3, "child(0, 0) behind blanks", x.child(0, 0), UNKNOWN);
        due(3, "goBack(1) behind blanks", x.goBack(1), NOT);
        due(3, "the seed stays behind blanks", x.seed(0), 77);
        feedAll(x, " n1 0;c0 0; ");
        due(3, "nursery() behind blanks", x.nursery(), 1);
    }

    private static void faults() {
        read(" x", -11, 1);
        read(" ;", -11, 1);
        read(" 5 ", -11, 1);
        read("\t", -11, 0);
        read("n", -11, 1);
        read("n1", -11, 2);
        read("n1 ", -11, 3);
        read("n1 0", -11, 4);
        read("n1 0 ", -11, 5);
        read("n1;", -11, 2);
        read("n1 0 0;", -11, 5);
        read("n1 0;;", -11, 5);
        read("n1 0;5555", -11, 5);
        read("n1 0;c", -11, 6);
        read("n1 0;c0;", -11, 7);
        read("n1 0;c0 0 0;", -11, 10);
        read("n1 0;d0 0 0;", -11, 11);
        read("n1 0;d0 0 0 9", -11, 13);
        read("n1 0;C0 0;", -11, 5);
        read("n1 n", -11, 3);
        read("n1 0;c0 c", -11, 8);
        read("d0 0 0 9;", -11, 0);
        read("  c0 0;", -11, 2);
        read("n1 -1;", -11, 3);
        read("n1\t0;", -11, 2);
        read("n100 0;", -12, 1);
        read("n1 0000;", -12, 3);
        read("n0001 0;", -12, 1);
        read("n 99999999999999999999 x", -12, 2);
        read("n1 101", -12, 3);
        read("n1 0;c4x", -12, 6);
        read("n1 0;c0 061;", -12, 8);
        read("n1 0;d010 0 0 9;", -12, 6);
        read("n1 0;d0 4 0 9;", -12, 8);
        read("n1 0;d0 0 31 9;", -12, 10);
        read("n1 0;c0 0;d0 0 0 1;", -12, 17);
        read("n1 0;d0 0 0 0;c0 0;", -12, 12);
        read("n1 0;d0 0 0 10;", -12, 12);
        read("n1 0;d0 0 0 9999;", -12, 12);
        read("n1 0; n", -13, 6);
        read("n1 0;c0 0;n1 0;", -13, 10);
        read("n1 0;c0 0;c0 0;c0 0;c0 0;c0 0;c0 0;c", -13, 35);
        read("n1 0;d0 0 0 9;d0 0 0 9;d0 0 0 9;d0 0 0 9;d0 0 0 9;d0 0 0 9; d", -13, 60);
        read("n1 0;c0 0;d0 0 0 0;d0 0 0 00;", -14, 26);
        read("n1 0;c0 0;d0 0 0 0;d0 0 0 0x", -14, 26);
    }

    private static void nurseryResets() {
        DummyHunt x = made(FOUR);
        x.seed(77);
        x.give(1, 3);
        x.cold(3);
        x.keep(1);
        x.hour(2);
        x.trial(0, 0, true);
        x.write(0, 0);
        feedAll(x, "n1 x");
        due(3, "nursery() with a fault", x.nursery(), -11);
        due(4, "fault()", x.fault(), 3);
        due(3, "told(2) stays", x.told(2), 4);
        due(3, "told(5) stays", x.told(5), 2);
        due(3, "told(12) stays", x.told(12), 1);
        due(3, "told(10) stays", x.told(10), 1);
        due(3, "goBack(1) stays", x.goBack(1), 1);
        x.hour(1);
        feedAll(x, FOUR);
        due(3, "nursery()", x.nursery(), 4);
        due(4, "fault()", x.fault(), NONE);
        for (int what = 4; what <= 12; what++) {
            due(3, "told(" + what + ") anew", x.told(what), what == 9 ? 11 : 0);
        }
        due(3, "goBack(1) is gone", x.goBack(1), NOT);
        due(3, "undo() is gone", x.undo(), NOT);
        due(3, "dummy(1, 7)", x.dummy(1, 7), 0);
        due(3, "dummy(1, 6)", x.dummy(1, 6), 0);
        due(3, "the seed stays", x.seed(0), 77);
        due(3, "nursery() of an empty text", x.nursery(), 0);
        due(3, "told(3)", x.told(3), 0);
        due(3, "told(0)", x.told(0), 0);
        due(3, "hour(1)", x.hour(1), NOT);
    }

    private static void toldChildDummy() {
        DummyHunt x = made(FOUR);
        int[] told = {5, 10, 4, 4, 0, 0, 0, 0, 0, 11, 0, 0, 0};
        for (int what = 0; what < told.length; what++) {
            due(5, "told(" + what + ")", x.told(what), told[what]);
        }
        due(5, "told(-1)", x.told(-1), OUTSIDE);
        due(5, "told(13)", x.told(13), OUTSIDE);
        int[] child2 = {2, 20, NONE, 2, 0, 0};
        for (int what = 0; what < child2.length; what++) {
            due(6, "child(2, " + what + ")", x.child(2, what), child2[what]);
        }
        due(6, "child(3, 3)", x.child(3, 3), NONE);
        due(6, "child(4, 0)", x.child(4, 0), UNKNOWN);
        due(6, "child(-1, 9)", x.child(-1, 9), UNKNOWN);
        due(6, "child(0, 6)", x.child(0, 6), OUTSIDE);
        due(6, "child(0, -1)", x.child(0, -1), OUTSIDE);
        int[] dummy3 = {2, 0, 9, 9, NONE, 0, 0, 0};
        for (int what = 0; what < dummy3.length; what++) {
            due(7, "dummy(3, " + what + ")", x.dummy(3, what), dummy3[what]);
        }
        due(7, "dummy(0, 3)", x.dummy(0, 3), 0);
        due(7, "dummy(4, 0)", x.dummy(4, 0), UNKNOWN);
        due(7, "dummy(-1, 9)", x.dummy(-1, 9), UNKNOWN);
        due(7, "dummy(0, 8)", x.dummy(0, 8), OUTSIDE);
        due(7, "dummy(0, -1)", x.dummy(0, -1), OUTSIDE);
    }

    private static void hours() {
        DummyHunt x = made(FOUR);
        due(8, "hour(0)", x.hour(0), OUTSIDE);
        due(8, "hour(61)", x.hour(61), OUTSIDE);
        x.give(0, 0);
        x.give(2, 3);
        x.give(1, 2);
        x.cold(1);
        due(8, "hour(3)", x.hour(3), 3);
        due(8, "calm: child(0, 5)", x.child(0, 5), 0);
        due(8, "has none: child(1, 5)", x.child(1, 5), 3);
        due(8, "won't have it: child(2, 5)", x.child(2, 5), 3);
        due(8, "child(1, 4)", x.child(1, 4), 2);
        due(8, "hour(60)", x.hour(60), 63);
        due(8, "child(1, 4)", x.child(1, 4), 0);
        x = made("n1 0;");
        for (int i = 1; i <= 150; i++) {
            due(8, "hour(60)", x.hour(60), 60 * i);
        }
        due(8, "hour(1) at 9000", x.hour(1), 9001);
        due(8, "hour(1) above 9000", x.hour(1), FULL);
        due(8, "hour(0) above 9000", x.hour(0), OUTSIDE);
        due(14, "drift(1) above 9000", x.drift(1), FULL);
        due(8, "told(12) is not raised", x.told(12), 20);
        x.undo();
        due(8, "hour(60) at 9000", x.hour(60), 9060);
    }

    private static void givenDroppedPicked() {
        DummyHunt x = made(FOUR);
        due(9, "give(4, 0)", x.give(4, 0), UNKNOWN);
        due(9, "give(0, 4)", x.give(0, 4), UNKNOWN);
        due(9, "give(-1, -1)", x.give(-1, -1), UNKNOWN);
        due(9, "give(3, 0)", x.give(3, 0), 0);
        due(9, "germs of one not taken", x.dummy(3, 6), 0);
        due(9, "dummy(3, 4)", x.dummy(3, 4), 0);
        due(9, "dummy(3, 7)", x.dummy(3, 7), 2);
        due(9, "give(3, 0) again", x.give(3, 0), NOT);
        due(9, "give(3, 1)", x.give(3, 1), NOT);
        due(9, "give(0, 0)", x.give(0, 0), NOT);
        due(9, "told(12)", x.told(12), 1);
        due(10, "drop(4)", x.drop(4), UNKNOWN);
        due(10, "drop(0)", x.drop(0), NOT);
        due(10, "drop(3)", x.drop(3), 0);
        due(10, "dummy(3, 7)", x.dummy(3, 7), 1);
        due(10, "told(8)", x.told(8), 8);
        due(10, "drop(3) again", x.drop(3), NOT);
        due(9, "give(3, 2) from the floor", x.give(3, 2), 1);
        due(9, "dummy(3, 6)", x.dummy(3, 6), 4);
        due(9, "told(8)", x.told(8), 0);
        x.drop(3);
        x.give(0, 0);
        x.drop(0);
        due(11, "pick(1) in the box", x.pick(1), NOT);
        due(11, "pick(-1)", x.pick(-1), UNKNOWN);
        due(11, "pick(4)", x.pick(4), UNKNOWN);
        due(11, "pick(0)", x.pick(0), 8);
        due(11, "pick(3)", x.pick(3), 0);
        due(11, "dummy(3, 7)", x.dummy(3, 7), 0);
        due(11, "germs stay", x.dummy(3, 6), 4);
        due(9, "B 1: side of its own", x.give(2, 1), 1);
        due(11, "pick(2) in a mouth", x.pick(2), NOT);
    }

    private static void boiled() {
        DummyHunt x = made(FOUR);
        x.give(0, 3);
        x.give(3, 2);
        x.drop(3);
        due(12, "boil()", x.boil(), 6);
        due(12, "germs of one in a mouth", x.dummy(0, 6), 8);
        due(12, "germs of one on the floor", x.dummy(3, 6), 4);
        due(12, "told(9)", x.told(9), 9);
        due(12, "dummy(1, 5)", x.dummy(1, 5), 1);
        due(12, "dummy(3, 5)", x.dummy(3, 5), 0);
        x.pick(3);
        due(12, "boil()", x.boil(), 14);
        due(12, "dummy(3, 6)", x.dummy(3, 6), 0);
        for (int d = 1; d <= 3; d++) {
            x.give(d, d - 1);
        }
        due(12, "boil() of nothing", x.boil(), NOT);
        due(12, "told(12)", x.told(12), 9);
    }

    private static void colds() {
        DummyHunt x = made("n3 0;c3 0;c3 0;c0 0;d0 0 0 9;d0 0 0 2;");
        due(13, "cold(3)", x.cold(3), UNKNOWN);
        due(13, "cold(-1)", x.cold(-1), UNKNOWN);
        due(13, "cold(0)", x.cold(0), 3);
        x.give(0, 1);
        due(13, "a clean one gives none", x.child(1, 4), 0);
        x.drop(0);
        x.give(0, 0);
        x.drop(0);
        x.hour(1);
        due(13, "child(0, 4)", x.child(0, 4), 2);
        x.give(0, 1);
        due(9, "by the mouth of 0, for all the hours", x.child(1, 4), 3);
        due(5, "told(7)", x.told(7), 3);
        due(7, "dummy(0, 6)", x.dummy(0, 6), 3);
        x.drop(0);
        x.give(0, 2);
        due(9, "in the hand alone: no cold", x.child(2, 4), 0);
        x.drop(0);
        x.give(0, 0);
        due(9, "who has one keeps its hours", x.child(0, 4), 2);
        due(13, "cold(0) again", x.cold(0), 3);
        x.hour(3);
        due(8, "told(7)", x.told(7), 0);
        due(15, "undo()", x.undo() >= 0 ? 1 : 0, 1);
        due(15, "told(7)", x.told(7), 3);
    }

    /** The draws of seed 0, by the rule: 0, 12345 -> 0; then as computed here in long numbers. */
    private static void drifting() {
        DummyHunt x = made("n2 100;c0 0;d0 0 0 0;");
        due(14, "drift(0)", x.drift(0), OUTSIDE);
        due(14, "drift(61)", x.drift(61), OUTSIDE);
        long s = 0;
        int deed = 0;
        for (int i = 1; i <= 4; i++) {
            s = (s * 1103515245L + 12345L) % 2147483648L;
            if (i == 3) {
                deed = (int) (s / 65536 % 4);
            }
        }
        due(14, "drift(1)", x.drift(1), deed >= 2 ? 1 : 0);
        due(14, "caught, and an hour less", x.child(0, 4), 1);
        due(14, "told(5)", x.told(5), 1);
        due(14, "told(12)", x.told(12), 1);
        due(14, "the seed", x.seed(5), s);
        x = made("n2 100;c0 0;");
        x.seed(9);
        due(14, "drift(60) without dummies", x.drift(60), 0);
        due(14, "told(7)", x.told(7), 0);
        due(14, "child(0, 5)", x.child(0, 5), 60);
        due(14, "no draw", x.seed(0), 9);
        x = made("n2 100;d0 0 0 9;");
        x.seed(9);
        due(14, "drift(60) without children", x.drift(60), 0);
        due(14, "no draw", x.seed(0), 9);
        x = made("n2 0;c3 0;d0 0 0 9;");
        x.drift(60);
        due(14, "no colds by odds 0", x.told(7), 0);
    }

    private static void undone() {
        DummyHunt x = made(FOUR);
        due(15, "undo()", x.undo(), NOT);
        x.give(0, 0);
        x.cold(0);
        x.drop(0);
        x.pick(0);
        x.boil();
        x.hour(7);
        x.seed(3);
        x.drift(9);
        int after = x.seed(3);
        x.seed(after);
        due(15, "told(12)", x.told(12), 7);
        due(15, "undo() of drift", x.undo(), 6);
        due(15, "told(5)", x.told(5), 7);
        due(15, "the seed stays", x.seed(after), after);
        due(15, "undo() of hour", x.undo(), 5);
        due(15, "told(5)", x.told(5), 0);
        due(15, "child(0, 5)", x.child(0, 5), 0);
        due(15, "child(0, 4)", x.child(0, 4), 5);
        due(15, "undo() of boil", x.undo(), 4);
        due(15, "dummy(0, 5)", x.dummy(0, 5), 0);
        due(15, "dummy(0, 6)", x.dummy(0, 6), 1);
        due(15, "undo() of pick", x.undo(), 3);
        due(15, "told(8)", x.told(8), 1);
        due(15, "undo() of drop", x.undo(), 2);
        due(15, "dummy(0, 4)", x.dummy(0, 4), 0);
        x.trial(0, 0, true);
        x.write(0, 0);
        due(15, "undo() of cold", x.undo(), 1);
        due(15, "told(7)", x.told(7), 0);
        due(15, "undo() of give", x.undo(), 0);
        due(15, "dummy(0, 6)", x.dummy(0, 6), 0);
        due(15, "undo() of nothing", x.undo(), NOT);
        due(15, "what was tried stays", x.told(10), 1);
        due(15, "the book stays", x.told(11), 1);
        for (int i = 0; i < 25; i++) {
            x.hour(1);
        }
        due(15, "told(12)", x.told(12), 20);
        for (int i = 19; i >= 0; i--) {
            due(15, "undo()", x.undo(), i);
        }
        due(15, "the oldest are lost", x.told(5), 5);
        due(15, "undo()", x.undo(), NOT);
    }

    private static void calm() {
        DummyHunt x = made("n5 0;c3 0;c0 0;c0 0;d0 0 0 1;d0 0 0 9;");
        due(16, "most", x.mostCalm(false, NONE), 2);
        due(16, "the lesser would cost one", x.mostCalm(false, 0), 1);
        due(16, "its own", x.mostCalm(false, 1), 0);
        due(16, "none", x.mostCalm(false, 2), NONE);
        due(16, "mostCalm(false, 3)", x.mostCalm(false, 3), UNKNOWN);
        due(16, "mostCalm(true, -2)", x.mostCalm(true, -2), UNKNOWN);
        x = made("n5 0;c3 0;c3 0;d0 0 0 9;");
        due(16, "the first child", x.mostCalm(false, 0), 0);
        due(16, "then none", x.mostCalm(false, 1), NONE);
        x.give(0, 1);
        due(16, "those in mouths, too", x.mostCalm(false, 0), 0);
        x.cold(1);
        due(16, "safe: not to 0", x.mostCalm(true, 0), NONE);
        due(16, "safe: to 1 who has it", x.mostCalm(true, 1), 0);
        due(16, "safe: how many", x.mostCalm(true, NONE), 1);
        due(16, "not safe", x.mostCalm(false, 0), 0);
        due(21, "spares(0) is not safe", x.spares(0), 1);
        x.cold(0);
        due(16, "safe: 0 has one", x.mostCalm(true, 0), 0);
        x.hour(5);
        due(16, "safe: the cold is over", x.mostCalm(true, 0), 0);
    }

    private static void traded() {
        DummyHunt x = made("n5 0;c0 0;c0 0;c3 0;c0 0;d0 0 0 0;d0 0 0 1;d0 0 0 3;d0 0 0 9;");
        x.give(0, 1);
        due(17, "0 has none", x.trades(NONE), 0);
        x.give(1, 0);
        x.give(2, 2);
        due(17, "how many", x.trades(NONE), 1);
        due(17, "the first", x.trades(0), 1);
        x.give(3, 3);
        due(17, "one more", x.trades(NONE), 2);
        due(17, "the second", x.trades(1), 23);
        due(17, "the third", x.trades(2), NONE);
        due(17, "trades(-2)", x.trades(-2), NONE);
        due(17, "nothing changes", x.told(6), 4);
    }

    private static void wantsWanted() {
        DummyHunt x = made("n5 0;c1 0;c2 0;c1 0;c3 0;d0 0 0 0;d1 0 0 1;d1 1 0 9;");
        due(18, "by side", x.wants(0), 2);
        due(18, "by colour", x.wants(1), 2);
        due(18, "without an own one", x.wants(2), 0);
        due(18, "any", x.wants(3), 3);
        due(18, "wants(4)", x.wants(4), UNKNOWN);
        due(18, "wants(-1)", x.wants(-1), UNKNOWN);
        due(19, "wanted(0)", x.wanted(0), 2);
        due(19, "wanted(1)", x.wanted(1), 3);
        due(19, "wanted(2)", x.wanted(2), 2);
        due(19, "wanted(3)", x.wanted(3), UNKNOWN);
        due(19, "wanted(-1)", x.wanted(-1), UNKNOWN);
    }

    private static void lostThings() {
        DummyHunt x = made("n5 0;c3 0;d0 0 0 9;");
        due(20, "none on the floor", x.lost(1, 1, 1), NOT);
        due(20, "outside comes first", x.lost(0, 1, 1), OUTSIDE);
        x.give(0, 0);
        x.drop(0);
        due(20, "lost(21, 1, 1)", x.lost(21, 1, 1), OUTSIDE);
        due(20, "lost(1, -1, 1)", x.lost(1, -1, 1), OUTSIDE);
        due(20, "lost(1, 101, 1)", x.lost(1, 101, 1), OUTSIDE);
        due(20, "lost(1, 1, -1)", x.lost(1, 1, -1), OUTSIDE);
        due(20, "lost(1, 1, 61)", x.lost(1, 1, 61), OUTSIDE);
        due(20, "lost(1, 100, 0)", x.lost(1, 100, 0), 0);
        due(20, "lost(1, 0, 9)", x.lost(1, 0, 9), 0);
        due(20, "lost(1, 100, 60)", x.lost(1, 100, 60), 1000000000);
        due(20, "lost(7, 100, 7)", x.lost(7, 100, 7), 142857142L * 7);
        due(20, "lost(20, 100, 60)", x.lost(20, 100, 60), 1000000000);
        due(20, "cut each time", x.lost(3, 1, 4), 3333333 * 3L + 3300000);
        due(20, "the same again", x.lost(3, 1, 4), 3333333 * 3L + 3300000);
    }

    private static void sparesOffQuiet() {
        DummyHunt x = made("n5 33;c1 60;c3 0;d0 0 0 0;d0 0 0 9;d0 1 0 9;");
        due(21, "spares(0)", x.spares(0), 0);
        due(21, "spares(2)", x.spares(2), 0);
        due(21, "spares(3)", x.spares(3), UNKNOWN);
        due(21, "spares(-1)", x.spares(-1), UNKNOWN);
        due(22, "off(0)", x.off(0), 40);
        due(22, "off(1)", x.off(1), 200);
        due(22, "off(2)", x.off(2), UNKNOWN);
        due(22, "off(-1)", x.off(-1), UNKNOWN);
        due(23, "quiet(-1)", x.quiet(-1), OUTSIDE);
        due(23, "quiet(61)", x.quiet(61), OUTSIDE);
        due(23, "quiet(0)", x.quiet(0), 1000000000);
        due(23, "quiet(2)", x.quiet(2), 448900000);
        due(23, "quiet(6) is cut", x.quiet(6), 90458381);
        due(23, "quiet(60)", x.quiet(60) >= 0 && x.quiet(60) < 10 ? 1 : 0, 1);
    }

    private static void riddles() {
        DummyHunt x = made("n5 0;c0 0;c0 0;d0 0 0 1;d0 0 0 9;d0 0 0 9;");
        due(25, "whose(-1)", x.whose(NONE), 6);
        due(25, "whose(2)", x.whose(2), UNKNOWN);
        due(26, "next()", x.next(), 0);
        due(24, "trial(2, 0, true)", x.trial(2, 0, true), UNKNOWN);
        due(24, "trial(0, 3, true)", x.trial(0, 3, true), UNKNOWN);
        due(24, "trial(0, 0, false)", x.trial(0, 0, false), 1);
        due(25, "whose(-1)", x.whose(NONE), 4);
        due(26, "next() parts 2 and 2", x.next(), 1);
        due(24, "trial(0, 1, false)", x.trial(0, 1, false), 2);
        due(25, "whose(0)", x.whose(0), 2);
        due(25, "whose(1)", x.whose(1), NONE);
        due(26, "next()", x.next(), 10);
        due(24, "trial(1, 1, true)", x.trial(1, 1, true), 3);
        due(25, "whose(-1)", x.whose(NONE), 1);
        due(25, "whose(1)", x.whose(1), 1);
        due(26, "none parts one", x.next(), NONE);
        for (int i = 4; i <= 8; i++) {
            due(24, "trial(1, 1, true)", x.trial(1, 1, true), i);
        }
        due(24, "a ninth", x.trial(1, 1, true), FULL);
        due(24, "a ninth of none", x.trial(2, 1, true), UNKNOWN);
        due(5, "told(10)", x.told(10), 8);
        due(28, "tear()", x.tear(), 8);
        due(25, "whose(-1)", x.whose(NONE), 6);
        x = made("n5 0;c0 0;c0 0;d0 0 0 1;");
        due(25, "whose(-1) with fewer", x.whose(NONE), NOT);
        due(25, "whose(5) with fewer", x.whose(5), UNKNOWN);
        due(26, "next() with fewer", x.next(), NOT);
        due(24, "trial() with fewer", x.trial(0, 0, true), 1);
        x = made("n5 0;c1 0;c2 0;d0 0 0 9;d0 1 0 9;d1 1 0 9;");
        due(24, "trial(0, 1, true)", x.trial(0, 1, true), 1);
        due(25, "by side", x.whose(NONE), 4);
        due(24, "trial(1, 0, true)", x.trial(1, 0, true), 2);
        due(25, "by colour", x.whose(NONE), 3);
        due(25, "whose(0)", x.whose(0), NONE);
    }

    private static void books() {
        DummyHunt x = made(FOUR);
        due(29, "judge() of nothing", x.judge(), NONE);
        due(27, "write(4, 0)", x.write(4, 0), UNKNOWN);
        due(27, "write(0, 4)", x.write(0, 4), UNKNOWN);
        due(27, "write(0, -2)", x.write(0, -2), UNKNOWN);
        due(27, "write(-1, -1)", x.write(-1, -1), UNKNOWN);
        due(27, "write(3, -1)", x.write(3, NONE), 1);
        due(27, "write(1, 2)", x.write(1, 2), 2);
        due(29, "judge()", x.judge(), 1);
        x.give(1, 2);
        due(29, "in the hand is had", x.judge(), NONE);
        x.give(3, 3);
        due(29, "judge()", x.judge(), 0);
        x.drop(3);
        due(29, "on the floor nobody has it", x.judge(), NONE);
        for (int i = 3; i <= 15; i++) {
            due(27, "write(1, 2)", x.write(1, 2), i);
        }
        due(27, "a sixteenth", x.write(1, 2), FULL);
        due(27, "a sixteenth of none", x.write(4, 2), UNKNOWN);
        x.trial(0, 0, true);
        due(5, "told(11)", x.told(11), 15);
        due(28, "tear()", x.tear(), 16);
        due(28, "tear() again", x.tear(), 0);
        due(5, "told(11)", x.told(11), 0);
    }

    private static void seedsImages() {
        DummyHunt x = made(FOUR);
        due(30, "seed(-1)", x.seed(-1), OUTSIDE);
        due(30, "seed(max)", x.seed(2147483647), 0);
        due(30, "seed(4)", x.seed(4), 2147483647);
        due(31, "keep(-1)", x.keep(-1), UNKNOWN);
        due(31, "keep(2)", x.keep(2), UNKNOWN);
        due(32, "goBack(-1)", x.goBack(-1), UNKNOWN);
        due(32, "goBack(2)", x.goBack(2), UNKNOWN);
        due(32, "goBack(0)", x.goBack(0), NOT);
        x.give(3, 2);
        x.cold(2);
        x.boil();
        x.hour(3);
        due(31, "keep(0)", x.keep(0), 1);
        due(31, "told(12)", x.told(12), 0);
        x.drift(60);
        x.keep(1);
        x.trial(0, 0, true);
        x.write(0, 0);
        x.hour(1);
        due(32, "goBack(0)", x.goBack(0), 1);
        due(32, "told(12)", x.told(12), 0);
        due(32, "told(5)", x.told(5), 3);
        due(32, "dummy(3, 4)", x.dummy(3, 4), 2);
        due(32, "dummy(3, 6)", x.dummy(3, 6), 4);
        due(32, "dummy(0, 5)", x.dummy(0, 5), 1);
        due(32, "child(2, 4)", x.child(2, 4), 2);
        due(32, "child(0, 5)", x.child(0, 5), 3);
        due(32, "the seed", x.seed(9), 4);
        due(32, "what was tried stays", x.told(10), 1);
        due(32, "the book stays", x.told(11), 1);
        due(32, "goBack(1)", x.goBack(1), 1);
        due(32, "told(5)", x.told(5), 63);
        due(32, "goBack(0) again", x.goBack(0), 1);
        due(32, "the seed again", x.seed(9), 4);
    }

    /** No call may throw, whatever it is given, with a nursery and without. */
    private static void wildArguments() {
        for (int a : WILD) {
            for (int b : WILD) {
                wildCalls(new DummyHunt(), a, b);
                wildCalls(made(FOUR), a, b);
                wildCalls(made("n1 100;c3 0;"), a, b);
                wildCalls(made("n1 100;d3 0 1 9;"), a, b);
            }
        }
    }

    private static void wildCalls(DummyHunt x, int a, int b) {
        x.told(a);
        x.child(a, b);
        x.dummy(a, b);
        x.give(a, b);
        x.drop(a);
        x.lost(a, b, a);
        x.lost(b, a, b);
        x.pick(a);
        x.cold(a);
        x.hour(a);
        x.drift(b);
        x.mostCalm(a > b, a);
        x.trades(a);
        x.wants(a);
        x.wanted(a);
        x.spares(a);
        x.off(a);
        x.quiet(a);
        x.trial(a, b, a > b);
        x.whose(a);
        x.next();
        x.write(a, b);
        x.judge();
        x.seed(a);
        x.keep(b);
        x.goBack(a);
        x.feed(a);
        x.feed(b);
        x.boil();
        x.undo();
        x.tear();
        x.nursery();
        x.fault();
    }
}

import java.util.ArrayList;
import java.util.List;
import java.util.function.Supplier;
import java.util.function.ToIntFunction;

/**
 * "What is refused changes nothing", "TRIED from now; nothing changes by it", and of a faulty text "all else is as it was":
 * each refused call and each question comes behind a story, and whatever can be asked, undone or gone back to then is
 * as behind the same story without it. No object is used for more than 512 calls.
 */
public final class RefusalTest {
    private static final int NONE = -1, UNKNOWN = -1000000001, OUTSIDE = -1000000002, NOT = -1000000003, FULL = -1000000004;
    private static final String FOUR = "n5 30;c0 6;c1 10;c2 20;c3 30;d1 0 2 0;d1 1 1 1;d2 1 0 2;d2 0 9 9;";

    private record Call(String name, ToIntFunction<DummyHunt> does, int answer) { }
    private record Probe(String name, ToIntFunction<DummyHunt> does) { }

    private static int wrong = 0;

    private static void fail(String what) {
        wrong++;
        System.out.println(what);
    }

    public static void main(String[] args) {
        behind("a new object", DummyHunt::new, withoutNursery());
        behind("an empty text", RefusalTest::emptied, withoutNursery());
        behind("a busy day", RefusalTest::busy, whenBusy());
        behind("all in hands", RefusalTest::allInHands, whenAllInHands());
        behind("the last hour", RefusalTest::late, whenLate());
        behind("a full text", RefusalTest::fullText, List.of(new Call("feed(32)", x -> x.feed(32), FULL), new Call("feed(0)", x -> x.feed(0), FULL)));
        behind("fewer dummies", RefusalTest::fewer, whenFewer());
        faultyTexts();
        System.out.println(wrong == 0 ? "what is refused changes nothing" : wrong + " calls are not as due");
        if (wrong != 0) {
            System.exit(1);
        }
    }

    // ---- stories

    private static void feedAll(DummyHunt x, String text) {
        for (int i = 0; i < text.length(); i++) {
            x.feed(text.charAt(i));
        }
    }

    private static DummyHunt made(String text) {
        DummyHunt x = new DummyHunt();
        feedAll(x, text);
        x.nursery();
        return x;
    }

    private static DummyHunt emptied() {
        DummyHunt x = made(FOUR);
        x.hour(1);
        x.seed(6);
        x.nursery();
        return x;
    }

    /** Both images, twenty to undo, all tried, the book full; one each in box, mouth, hand and on the floor. */
    private static DummyHunt busyDay() {
        DummyHunt x = made(FOUR);
        x.seed(123);
        x.drift(20);
        x.keep(0);
        x.drift(20);
        x.keep(1);
        for (int d = 0; d < 4; d++) {
            x.drop(d);
            x.pick(d);
        }
        for (int i = 0; i < 5; i++) {
            x.give(1, 3);
            x.cold(3);
            x.hour(1);
            x.drop(1);
        }
        x.give(1, 2);
        x.give(0, 0);
        x.give(2, 1);
        x.drop(2);
        for (int i = 0; i < 8; i++) {
            x.trial(1, 2, true);
        }
        for (int i = 0; i < 15; i++) {
            x.write(i < 9 ? 1 : 3, i < 9 ? 2 : NONE);
        }
        feedAll(x, "n0");
        x.nursery();
        return x;
    }

    private static DummyHunt busy() {
        DummyHunt x = busyDay();
        feedAll(x, "n7 7");
        return x;
    }

    private static DummyHunt allInHands() {
        DummyHunt x = made(FOUR);
        for (int d = 0; d < 4; d++) {
            x.give(d, 3 - d);
        }
        x.keep(0);
        return x;
    }

    private static DummyHunt late() {
        DummyHunt x = made("n9 50;c3 0;d0 0 1 9;");
        x.keep(1);
        for (int i = 0; i < 150; i++) {
            x.hour(60);
        }
        x.cold(0);
        x.hour(1);
        return x;
    }

    private static DummyHunt fullText() {
        DummyHunt x = made("n9 50;c3 0;d0 0 1 9;");
        x.hour(1);
        feedAll(x, "n8 9;c3 1;" + " ".repeat(230));
        return x;
    }

    private static DummyHunt fewer() {
        DummyHunt x = made("n9 50;c3 0;c0 0;d0 0 1 1;");
        x.trial(1, 0, true);
        x.give(0, 1);
        return x;
    }

    // ---- what is refused

    /** Refused wherever it comes. */
    private static List<Call> always() {
        List<Call> all = new ArrayList<>();
        for (int k : new int[] {-1, 6, Integer.MIN_VALUE, Integer.MAX_VALUE}) {
            all.add(new Call("child(" + k + ", 0)", x -> x.child(k, 0), UNKNOWN));
            all.add(new Call("child(" + k + ", 6)", x -> x.child(k, 6), UNKNOWN));
            all.add(new Call("dummy(" + k + ", 0)", x -> x.dummy(k, 0), UNKNOWN));
            all.add(new Call("dummy(" + k + ", 8)", x -> x.dummy(k, 8), UNKNOWN));
            all.add(new Call("give(" + k + ", 0)", x -> x.give(k, 0), UNKNOWN));
            all.add(new Call("give(0, " + k + ")", x -> x.give(0, k), UNKNOWN));
            all.add(new Call("give(2, " + k + ")", x -> x.give(2, k), UNKNOWN));
            all.add(new Call("drop(" + k + ")", x -> x.drop(k), UNKNOWN));
            all.add(new Call("pick(" + k + ")", x -> x.pick(k), UNKNOWN));
            all.add(new Call("cold(" + k + ")", x -> x.cold(k), UNKNOWN));
            all.add(new Call("wants(" + k + ")", x -> x.wants(k), UNKNOWN));
            all.add(new Call("wanted(" + k + ")", x -> x.wanted(k), UNKNOWN));
            all.add(new Call("spares(" + k + ")", x -> x.spares(k), UNKNOWN));
            all.add(new Call("off(" + k + ")", x -> x.off(k), UNKNOWN));
            all.add(new Call("trial(" + k + ", 0, true)", x -> x.trial(k, 0, true), UNKNOWN));
            all.add(new Call("trial(0, " + k + ", false)", x -> x.trial(0, k, false), UNKNOWN));
            all.add(new Call("write(" + k + ", -1)", x -> x.write(k, NONE), UNKNOWN));
            all.add(new Call("keep(" + k + ")", x -> x.keep(k), UNKNOWN));
            all.add(new Call("goBack(" + k + ")", x -> x.goBack(k), UNKNOWN));
            int none = k == NONE ? -2 : k;
            all.add(new Call("mostCalm(false, " + none + ")", x -> x.mostCalm(false, none), UNKNOWN));
            all.add(new Call("mostCalm(true, " + none + ")", x -> x.mostCalm(true, none), UNKNOWN));
            all.add(new Call("whose(" + none + ")", x -> x.whose(none), UNKNOWN));
            all.add(new Call("write(0, " + none + ")", x -> x.write(0, none), UNKNOWN));
        }
        all.addAll(outOfBounds());
        return all;
    }

    private static List<Call> outOfBounds() {
        List<Call> all = new ArrayList<>();
        for (int k : new int[] {-1, 256, Integer.MIN_VALUE, Integer.MAX_VALUE}) {
            all.add(new Call("feed(" + k + ")", x -> x.feed(k), OUTSIDE));
            all.add(new Call("told(" + k + ")", x -> x.told(k), OUTSIDE));
            all.add(new Call("hour(" + k + ")", x -> x.hour(k), OUTSIDE));
            all.add(new Call("drift(" + k + ")", x -> x.drift(k), OUTSIDE));
            all.add(new Call("lost(" + k + ", 1, 1)", x -> x.lost(k, 1, 1), OUTSIDE));
            all.add(new Call("lost(1, " + k + ", 1)", x -> x.lost(1, k, 1), OUTSIDE));
            all.add(new Call("lost(1, 1, " + k + ")", x -> x.lost(1, 1, k), OUTSIDE));
            all.add(new Call("quiet(" + k + ")", x -> x.quiet(k), OUTSIDE));
        }
        all.add(new Call("told(13)", x -> x.told(13), OUTSIDE));
        all.add(new Call("hour(0)", x -> x.hour(0), OUTSIDE));
        all.add(new Call("hour(61)", x -> x.hour(61), OUTSIDE));
        all.add(new Call("drift(0)", x -> x.drift(0), OUTSIDE));
        all.add(new Call("drift(61)", x -> x.drift(61), OUTSIDE));
        all.add(new Call("seed(-1)", x -> x.seed(-1), OUTSIDE));
        all.add(new Call("seed(least)", x -> x.seed(Integer.MIN_VALUE), OUTSIDE));
        return all;
    }

    private static List<Call> withoutNursery() {
        return List.of(new Call("hour(1)", x -> x.hour(1), NOT), new Call("drift(60)", x -> x.drift(60), NOT),
            new Call("boil()", x -> x.boil(), NOT), new Call("undo()", x -> x.undo(), NOT),
            new Call("lost(1, 1, 1)", x -> x.lost(1, 1, 1), NOT), new Call("goBack(0)", x -> x.goBack(0), NOT),
            new Call("goBack(1)", x -> x.goBack(1), NOT), new Call("give(0, 0)", x -> x.give(0, 0), UNKNOWN),
            new Call("cold(0)", x -> x.cold(0), UNKNOWN), new Call("write(0, -1)", x -> x.write(0, NONE), UNKNOWN));
    }

    /** Dummy 0 is with child 0, dummy 1 in the hand of child 2, dummy 2 on the floor, dummy 3 in the box. */
    private static List<Call> whenBusy() {
        return List.of(new Call("child(3, 6)", x -> x.child(3, 6), OUTSIDE), new Call("dummy(3, 8)", x -> x.dummy(3, 8), OUTSIDE),
            new Call("give(0, 0)", x -> x.give(0, 0), NOT), new Call("give(0, 3)", x -> x.give(0, 3), NOT),
            new Call("give(3, 0)", x -> x.give(3, 0), NOT), new Call("give(2, 2)", x -> x.give(2, 2), NOT),
            new Call("give(1, 1)", x -> x.give(1, 1), NOT), new Call("drop(2)", x -> x.drop(2), NOT),
            new Call("drop(3)", x -> x.drop(3), NOT), new Call("pick(0)", x -> x.pick(0), NOT),
            new Call("pick(1)", x -> x.pick(1), NOT), new Call("pick(3)", x -> x.pick(3), NOT),
            new Call("trial(0, 0, true)", x -> x.trial(0, 0, true), FULL), new Call("trial(0, 0, false)", x -> x.trial(0, 0, false), FULL),
            new Call("write(0, -1)", x -> x.write(0, NONE), FULL), new Call("give(4, 3)", x -> x.give(4, 3), UNKNOWN),
            new Call("give(3, 4)", x -> x.give(3, 4), UNKNOWN), new Call("cold(4)", x -> x.cold(4), UNKNOWN));
    }

    private static List<Call> whenAllInHands() {
        return List.of(new Call("boil()", x -> x.boil(), NOT), new Call("lost(20, 100, 60)", x -> x.lost(20, 100, 60), NOT),
            new Call("undo()", x -> x.undo(), NOT), new Call("goBack(1)", x -> x.goBack(1), NOT),
            new Call("pick(0)", x -> x.pick(0), NOT), new Call("give(0, 0)", x -> x.give(0, 0), NOT));
    }

    private static List<Call> whenLate() {
        return List.of(new Call("hour(1)", x -> x.hour(1), FULL), new Call("hour(60)", x -> x.hour(60), FULL),
            new Call("drift(1)", x -> x.drift(1), FULL), new Call("drift(60)", x -> x.drift(60), FULL));
    }

    private static List<Call> whenFewer() {
        return List.of(new Call("whose(-1)", x -> x.whose(NONE), NOT), new Call("whose(1)", x -> x.whose(1), NOT),
            new Call("next()", x -> x.next(), NOT), new Call("boil()", x -> x.boil(), NOT));
    }

    /** Calls that ask alone; what they answer is tried elsewhere. */
    private static List<Probe> questions() {
        return List.of(new Probe("fault()", x -> x.fault()), new Probe("told(9)", x -> x.told(9)),
            new Probe("child(0, 2)", x -> x.child(0, 2)), new Probe("dummy(0, 6)", x -> x.dummy(0, 6)),
            new Probe("mostCalm(true, 0)", x -> x.mostCalm(true, 0)), new Probe("mostCalm(false, -1)", x -> x.mostCalm(false, NONE)),
            new Probe("trades(0)", x -> x.trades(0)), new Probe("wants(0)", x -> x.wants(0)), new Probe("wanted(0)", x -> x.wanted(0)),
            new Probe("lost(3, 50, 60)", x -> x.lost(3, 50, 60)), new Probe("spares(0)", x -> x.spares(0)), new Probe("off(0)", x -> x.off(0)),
            new Probe("quiet(60)", x -> x.quiet(60)), new Probe("whose(0)", x -> x.whose(0)), new Probe("next()", x -> x.next()),
            new Probe("judge()", x -> x.judge()));
    }

    // ---- what can be seen behind it

    /** What is done ahead of looking at all there is. */
    private static List<Probe> probes() {
        List<Probe> all = new ArrayList<>();
        for (int times : new int[] {0, 1, 2, 7, 19, 20}) {
            all.add(new Probe(times + " times undo()", x -> undone(x, times)));
        }
        all.add(new Probe("goBack(0)", x -> x.goBack(0)));
        all.add(new Probe("goBack(1)", x -> x.goBack(1)));
        all.add(new Probe("nursery()", x -> x.nursery()));
        all.add(new Probe("a clause's end and nursery()", x -> x.feed(';') + 1000 * x.nursery()));
        all.add(new Probe("drift(30)", x -> x.drift(30)));
        all.add(new Probe("hour(1)", x -> x.hour(1)));
        all.add(new Probe("tear()", x -> x.tear()));
        return all;
    }

    private static int undone(DummyHunt x, int times) {
        int last = 0;
        for (int i = 0; i < times; i++) {
            last = x.undo();
        }
        return last;
    }

    /** Some 160 calls. */
    private static String seen(DummyHunt x, boolean withText) {
        StringBuilder s = new StringBuilder();
        for (int what = 0; what <= 12; what++) {
            s.append(what == 4 && !withText ? 0 : x.told(what)).append(' ');
        }
        s.append(withText ? x.fault() : 0).append(" children ");
        for (int c = 0; c <= 4; c++) {
            for (int what = 0; what <= 5; what++) {
                s.append(x.child(c, what)).append(' ');
            }
            s.append(x.wants(c)).append(' ').append(x.off(c)).append(' ').append(x.whose(c)).append(' ');
            s.append(x.mostCalm(true, c)).append(' ').append(x.mostCalm(false, c)).append(' ');
        }
        s.append("dummies ");
        for (int d = 0; d <= 4; d++) {
            for (int what = 0; what <= 7; what++) {
                s.append(x.dummy(d, what)).append(' ');
            }
            s.append(x.wanted(d)).append(' ').append(x.spares(d)).append(' ');
        }
        s.append("rest ").append(x.trades(NONE)).append(' ').append(x.trades(0)).append(' ').append(x.quiet(5)).append(' ');
        s.append(x.whose(NONE)).append(' ').append(x.next()).append(' ').append(x.judge()).append(' ').append(x.lost(3, 50, 5)).append(' ');
        return s.append("seed ").append(x.seed(0)).toString();
    }

    private static String seenBehind(DummyHunt x, Probe probe, boolean withText) {
        int answer = probe.does.applyAsInt(x);
        return answer + ": " + seen(x, withText);
    }

    private static void behind(String story, Supplier<DummyHunt> told, List<Call> here) {
        List<Call> refused = new ArrayList<>(always());
        refused.addAll(here);
        for (Probe probe : probes()) {
            String due = seenBehind(told.get(), probe, true);
            for (Call call : refused) {
                DummyHunt x = told.get();
                int got = call.does.applyAsInt(x);
                if (got != call.answer) {
                    fail("behind " + story + " " + call.name + " answered " + got + ", due is " + call.answer);
                }
                compare(story, call.name, probe, seenBehind(x, probe, true), due);
            }
            for (Probe question : questions()) {
                DummyHunt x = told.get();
                question.does.applyAsInt(x);
                compare(story, question.name, probe, seenBehind(x, probe, true), due);
            }
        }
    }

    private static void compare(String story, String call, Probe probe, String got, String due) {
        if (!got.equals(due)) {
            fail("behind " + story + " " + call + " changed what is seen behind " + probe.name + "\n  " + got + "\n  due is\n  " + due);
        }
    }

    /** "-10 less the number of its FAULT (all else is as it was)": the text, emptied, and fault() alone are otherwise. */
    private static void faultyTexts() {
        String[] texts = {"x", "n100 0;", "n1 0;n", "n1 0;c0 0;d0 0 0 0;d0 0 0 0;", "n9 9;c3 3;c3 3;d1 1 1 1;d1 1 1 9"};
        int[] answers = {-11, -12, -13, -14, -11};
        for (Probe probe : probes()) {
            if (probe.name.contains("nursery")) {
                continue;
            }
            String due = seenBehind(busyDay(), probe, false);
            for (int i = 0; i < texts.length; i++) {
                DummyHunt x = busyDay();
                feedAll(x, texts[i]);
                int got = x.nursery();
                if (got != answers[i]) {
                    fail("nursery() of '" + texts[i] + "' answered " + got + ", due is " + answers[i]);
                }
                compare("a busy day", "nursery() of '" + texts[i] + "'", probe, seenBehind(x, probe, false), due);
            }
        }
    }
}

import java.util.ArrayDeque;
import java.util.ArrayList;
import java.util.Arrays;
import java.util.List;
import java.util.Random;
import java.util.TreeSet;
import java.util.regex.Matcher;
import java.util.regex.Pattern;

/**
 * Long runs of drawn calls, each answer against a second program that is written from the document in another way:
 * by lists, sets and trying out everything, not by rows and tables. No object is used for more than 512 calls.
 */
public final class ModelTest {
    private static final int NONE = -1, UNKNOWN = -1000000001, OUTSIDE = -1000000002, NOT = -1000000003, FULL = -1000000004;
    private static final int RUNS = 3000, LAST_CALLS = 13, CALLS = 512 - LAST_CALLS;

    private record Kid(int b, int a) { }
    private record Thing(int k, int s, int m, int o) { }
    private record Try(int c, int d, boolean took) { }
    private record Fault(int at, int kind) { }

    /** Section 2; germs as sets, who has what as a list by dummies. */
    private static final class Now {
        int hours;
        List<Integer> where = new ArrayList<>();
        List<Integer> boilings = new ArrayList<>();
        List<TreeSet<Integer>> germs = new ArrayList<>();
        List<Integer> cold = new ArrayList<>();
        List<Integer> howled = new ArrayList<>();

        Now copy() {
            Now n = new Now();
            n.hours = hours;
            n.where.addAll(where);
            n.boilings.addAll(boilings);
            for (TreeSet<Integer> g : germs) {
                n.germs.add(new TreeSet<>(g));
            }
            n.cold.addAll(cold);
            n.howled.addAll(howled);
            return n;
        }
    }

    private static final class Model {
        static final int BOX = -1, FLOOR = -2;
        StringBuilder text = new StringBuilder();
        boolean there;
        int h, q, faultAt = NONE;
        List<Kid> kids = new ArrayList<>();
        List<Thing> things = new ArrayList<>();
        Now now = new Now();
        ArrayDeque<Now> undo = new ArrayDeque<>();
        List<Try> tries = new ArrayList<>();
        List<int[]> book = new ArrayList<>();
        Now[] images = new Now[2];
        long[] imageSeeds = new long[2];
        long seed;

        boolean kid(int c) { return c >= 0 && c < kids.size(); }
        boolean thing(int d) { return d >= 0 && d < things.size(); }

        int feed(int l) {
            if (l < 0 || l > 255) return OUTSIDE;
            if (text.length() == 240) return FULL;
            text.append((char) l);
            return text.length();
        }

        int nursery() {
            String t = text.toString();
            text.setLength(0);
            List<Kid> ks = new ArrayList<>();
            List<Thing> ts = new ArrayList<>();
            int[] head = new int[2];
            boolean wordless = t.matches(" *");
            Fault f = wordless ? null : parse(t, head, ks, ts);
            faultAt = f == null ? NONE : f.at;
            if (f != null) return -10 - f.kind;
            there = !wordless;
            h = head[0];
            q = head[1];
            kids = ks;
            things = ts;
            now = new Now();
            for (int i = 0; i < ts.size(); i++) {
                now.where.add(BOX);
                now.boilings.add(0);
                now.germs.add(new TreeSet<>());
            }
            for (int i = 0; i < ks.size(); i++) {
                now.cold.add(0);
                now.howled.add(0);
            }
            undo.clear();
            tries.clear();
            book.clear();
            images = new Now[2];
            return kids.size();
        }

        /** By tokens; clauses are words with the bounds of their numbers. */
        static Fault parse(String t, int[] head, List<Kid> ks, List<Thing> ts) {
            List<String> tokens = new ArrayList<>();
            List<Integer> places = new ArrayList<>();
            Matcher m = Pattern.compile("[0-9]+|[^ ]", Pattern.DOTALL).matcher(t);
            while (m.find()) {
                tokens.add(m.group());
                places.add(m.start());
            }
            tokens.add("");
            places.add(t.length());
            int i = 0;
            boolean first = true;
            while (first || !tokens.get(i).isEmpty()) {
                String w = tokens.get(i);
                boolean known = first ? w.equals("n") : w.equals("n") || w.equals("c") || w.equals("d");
                if (!known) return new Fault(places.get(i), 1);
                if (!first && w.equals("n")) return new Fault(places.get(i), 3);
                if (w.equals("c") && ks.size() == 6 || w.equals("d") && ts.size() == 6) return new Fault(places.get(i), 3);
                first = false;
                int[][] bounds = w.equals("n") ? new int[][] {{1, 99}, {0, 100}}
                    : w.equals("c") ? new int[][] {{0, 3}, {0, 60}} : new int[][] {{0, 9}, {0, 3}, {0, 30}, {0, 9}};
                int[] v = new int[bounds.length];
                for (int j = 0; j < v.length; j++) {
                    String s = tokens.get(++i);
                    if (!s.matches("[0-9]+")) return new Fault(places.get(i), 1);
                    if (s.length() > 3) return new Fault(places.get(i), 2);
                    v[j] = Integer.parseInt(s);
                    if (v[j] < bounds[j][0] || v[j] > bounds[j][1]) return new Fault(places.get(i), 2);
                }
                if (w.equals("d") && v[3] != 9) {
                    if (v[3] >= ks.size()) return new Fault(places.get(i), 2);
                    for (Thing x : ts) {
                        if (x.o == v[3]) return new Fault(places.get(i), 4);
                    }
                }
                if (!tokens.get(++i).equals(";")) return new Fault(places.get(i), 1);
                i++;
                if (w.equals("n")) {
                    head[0] = v[0];
                    head[1] = v[1];
                } else if (w.equals("c")) {
                    ks.add(new Kid(v[0], v[1]));
                } else {
                    ts.add(new Thing(v[0], v[1], v[2], v[3]));
                }
            }
            return null;
        }

        int own(int c) {
            for (int d = 0; d < things.size(); d++) {
                if (things.get(d).o == c) return d;
            }
            return NONE;
        }

        boolean takes(int c, int mine, int d) {
            int b = kids.get(c).b;
            if (b == 3) return true;
            if (mine == NONE) return false;
            Thing x = things.get(mine), y = things.get(d);
            return mine == d || b == 1 && x.s == y.s || b == 2 && x.k == y.k;
        }

        boolean takes(int c, int d) { return takes(c, own(c), d); }

        boolean calm(int c) {
            int d = now.where.indexOf(c);
            return d >= 0 && takes(c, d);
        }

        int calmSet() {
            int set = 0;
            for (int c = 0; c < kids.size(); c++) if (calm(c)) set += 1 << c;
            return set;
        }

        int told(int what) {
            int set = 0;
            switch (what) {
                case 0: return h;
                case 1: return q;
                case 2: return kids.size();
                case 3: return things.size();
                case 4: return text.length();
                case 5: return now.hours;
                case 6: return calmSet();
                case 7: for (int c = 0; c < kids.size(); c++) if (now.cold.get(c) > 0) set += 1 << c; return set;
                case 8: for (int d = 0; d < things.size(); d++) if (now.where.get(d) == FLOOR) set += 1 << d; return set;
                case 9: for (int d = 0; d < things.size(); d++) if (now.boilings.get(d) < things.get(d).m) set += 1 << d; return set;
                case 10: return tries.size();
                case 11: return book.size();
                case 12: return undo.size();
                default: return OUTSIDE;
            }
        }

        int child(int c, int what) {
            if (!kid(c)) return UNKNOWN;
            int[] all = {kids.get(c).b, kids.get(c).a, now.where.indexOf(c), own(c), now.cold.get(c), now.howled.get(c)};
            return what < 0 || what >= all.length ? OUTSIDE : all[what];
        }

        int dummy(int d, int what) {
            if (!thing(d)) return UNKNOWN;
            Thing t = things.get(d);
            int set = 0;
            for (int c : now.germs.get(d)) set += 1 << c;
            int w = now.where.get(d);
            int[] all = {t.k, t.s, t.m, t.o, w >= 0 ? w : NONE, now.boilings.get(d), set, w >= 0 ? 2 : w == FLOOR ? 1 : 0};
            return what < 0 || what >= all.length ? OUTSIDE : all[what];
        }

        void remember() {
            undo.addLast(now.copy());
            if (undo.size() > 20) undo.removeFirst();
        }

        void tick() {
            for (int c = 0; c < kids.size(); c++) {
                if (!calm(c)) now.howled.set(c, now.howled.get(c) + 1);
            }
            for (int c = 0; c < kids.size(); c++) now.cold.set(c, Math.max(0, now.cold.get(c) - 1));
            now.hours++;
        }

        int hour(int n) {
            if (n < 1 || n > 60) return OUTSIDE;
            if (!there) return NOT;
            if (now.hours > 9000) return FULL;
            remember();
            for (int i = 0; i < n; i++) tick();
            return now.hours;
        }

        boolean givable(int d, int c) { return now.where.get(d) < 0 && !now.where.contains(c); }

        void doGive(int d, int c) {
            now.where.set(d, c);
            if (!takes(c, d)) return;
            boolean sick = false;
            for (int g : now.germs.get(d)) sick |= now.cold.get(g) > 0;
            if (sick && now.cold.get(c) == 0) now.cold.set(c, h);
            now.germs.get(d).add(c);
        }

        int give(int d, int c) {
            if (!thing(d) || !kid(c)) return UNKNOWN;
            if (!givable(d, c)) return NOT;
            remember();
            doGive(d, c);
            return takes(c, d) ? 1 : 0;
        }

        int drop(int d) {
            if (!thing(d)) return UNKNOWN;
            int c = now.where.get(d);
            if (c < 0) return NOT;
            remember();
            now.where.set(d, FLOOR);
            return c;
        }

        int pick(int d) {
            if (!thing(d)) return UNKNOWN;
            if (now.where.get(d) != FLOOR) return NOT;
            remember();
            now.where.set(d, BOX);
            return told(8);
        }

        int boil() {
            if (!now.where.contains(BOX)) return NOT;
            remember();
            int set = 0;
            for (int d = 0; d < things.size(); d++) {
                if (now.where.get(d) == BOX) {
                    set += 1 << d;
                    now.germs.get(d).clear();
                    now.boilings.set(d, now.boilings.get(d) + 1);
                }
            }
            return set;
        }

        int cold(int c) {
            if (!kid(c)) return UNKNOWN;
            remember();
            now.cold.set(c, h);
            return h;
        }

        int draw(int n) {
            seed = (seed * 1103515245L + 12345L) % (1L << 31);
            return (int) (seed / 65536 % n);
        }

        int drift(int n) {
            if (n < 1 || n > 60) return OUTSIDE;
            if (!there) return NOT;
            if (now.hours > 9000) return FULL;
            remember();
            for (int i = 0; i < n; i++) {
                if (!kids.isEmpty() && !things.isEmpty()) {
                    int d = draw(things.size()), c = draw(kids.size()), what = draw(4);
                    if (what == 0 && now.where.get(d) >= 0) now.where.set(d, FLOOR);
                    if (what == 1 && now.where.get(d) == FLOOR) now.where.set(d, BOX);
                    if (what >= 2 && givable(d, c)) doGive(d, c);
                    if (draw(100) < q) now.cold.set(c, h);
                }
                tick();
            }
            return calmSet();
        }

        int undo() {
            if (undo.isEmpty()) return NOT;
            now = undo.removeLast();
            return undo.size();
        }

        boolean mayHave(boolean safe, int c, int d) {
            if (!takes(c, d)) return false;
            if (!safe || now.cold.get(c) > 0) return true;
            for (int g : now.germs.get(d)) if (now.cold.get(g) > 0) return false;
            return true;
        }

        /** Everything is tried in the order of the document, so the first of the most is the one. */
        int[] bestGiving(boolean safe, int without) {
            int[] best = new int[kids.size() + 1];
            best[kids.size()] = -1;
            tryGiving(safe, without, 0, new int[kids.size()], best);
            return best;
        }

        void tryGiving(boolean safe, int without, int c, int[] so, int[] best) {
            if (c == kids.size()) {
                int calm = 0;
                for (int d : so) if (d != NONE) calm++;
                if (calm > best[c]) {
                    System.arraycopy(so, 0, best, 0, c);
                    best[c] = calm;
                }
                return;
            }
            for (int d = 0; d <= things.size(); d++) {
                so[c] = d == things.size() ? NONE : d;
                boolean free = d != without;
                for (int e = 0; e < c; e++) free &= d == things.size() || so[e] != d;
                if (free && (d == things.size() || mayHave(safe, c, d))) tryGiving(safe, without, c + 1, so, best);
            }
        }

        int mostCalm(boolean safe, int c) {
            if (c != NONE && !kid(c)) return UNKNOWN;
            int[] best = bestGiving(safe, -7);
            return best[c == NONE ? kids.size() : c];
        }

        int spares(int d) {
            if (!thing(d)) return UNKNOWN;
            return bestGiving(false, -7)[kids.size()] - bestGiving(false, d)[kids.size()];
        }

        int trades(int i) {
            TreeSet<Integer> found = new TreeSet<>();
            for (int d = 0; d < things.size(); d++) {
                for (int e = 0; e < things.size(); e++) {
                    int a = now.where.get(d), b = now.where.get(e);
                    if (a < 0 || b <= a) continue;
                    int is = (takes(a, d) ? 1 : 0) + (takes(b, e) ? 1 : 0);
                    int would = (takes(a, e) ? 1 : 0) + (takes(b, d) ? 1 : 0);
                    if (is < would) found.add(10 * a + b);
                }
            }
            if (i == NONE) return found.size();
            return i < 0 || i >= found.size() ? NONE : new ArrayList<>(found).get(i);
        }

        int wants(int c) {
            if (!kid(c)) return UNKNOWN;
            int n = 0;
            for (int d = 0; d < things.size(); d++) if (takes(c, d)) n++;
            return n;
        }

        int wanted(int d) {
            if (!thing(d)) return UNKNOWN;
            int n = 0;
            for (int c = 0; c < kids.size(); c++) if (takes(c, d)) n++;
            return n;
        }

        int lost(int n, int p, int k) {
            if (n < 1 || n > 20 || p < 0 || p > 100 || k < 0 || k > 60) return OUTSIDE;
            if (!now.where.contains(FLOOR)) return NOT;
            long[] lies = new long[n];
            Arrays.fill(lies, 1000000000L / n);
            long sum = 0;
            for (int i = 0, at = 0; i < k; i++, at = at + 1 == n ? 0 : at + 1) {
                long found = lies[at] * p / 100;
                lies[at] -= found;
                sum += found;
            }
            return (int) sum;
        }

        int off(int c) {
            return !kid(c) ? UNKNOWN : (100 - kids.get(c).a) * (kids.get(c).b == 3 ? 2 : 1);
        }

        int quiet(int n) {
            if (n < 0 || n > 60) return OUTSIDE;
            long odds = 1000000000L;
            for (int i = 0; i < n; i++) odds = odds * (100 - q) / 100;
            return (int) odds;
        }

        int trial(int c, int d, boolean took) {
            if (!kid(c) || !thing(d)) return UNKNOWN;
            if (tries.size() == 8) return FULL;
            tries.add(new Try(c, d, took));
            return tries.size();
        }

        List<int[]> ways() {
            List<int[]> out = new ArrayList<>();
            ways(0, new int[kids.size()], out);
            return out;
        }

        void ways(int c, int[] owns, List<int[]> out) {
            if (c == kids.size()) {
                for (Try t : tries) if (takes(t.c, owns[t.c], t.d) != t.took) return;
                out.add(owns.clone());
                return;
            }
            for (int d = 0; d < things.size(); d++) {
                boolean free = true;
                for (int e = 0; e < c; e++) free &= owns[e] != d;
                owns[c] = d;
                if (free) ways(c + 1, owns, out);
            }
        }

        int whose(int c) {
            if (c != NONE && !kid(c)) return UNKNOWN;
            if (things.size() < kids.size()) return NOT;
            List<int[]> all = ways();
            if (c == NONE) return all.size();
            TreeSet<Integer> owned = new TreeSet<>();
            for (int[] way : all) owned.add(way[c]);
            return owned.size() == 1 ? owned.first() : NONE;
        }

        int next() {
            if (things.size() < kids.size()) return NOT;
            List<int[]> all = ways();
            int best = NONE, least = Integer.MAX_VALUE;
            for (int c = 0; c < kids.size(); c++) {
                for (int d = 0; d < things.size(); d++) {
                    int yes = 0;
                    for (int[] way : all) if (takes(c, way[c], d)) yes++;
                    int no = all.size() - yes;
                    if (yes > 0 && no > 0 && Math.max(yes, no) < least) {
                        least = Math.max(yes, no);
                        best = 10 * c + d;
                    }
                }
            }
            return best;
        }

        int write(int d, int c) {
            if (!thing(d) || c != NONE && !kid(c)) return UNKNOWN;
            if (book.size() == 15) return FULL;
            book.add(new int[] {d, c});
            return book.size();
        }

        int tear() {
            int n = tries.size() + book.size();
            tries.clear();
            book.clear();
            return n;
        }

        int judge() {
            for (int i = 0; i < book.size(); i++) {
                if (Math.max(now.where.get(book.get(i)[0]), -1) != book.get(i)[1]) return i;
            }
            return NONE;
        }

        int seed(int v) {
            if (v < 0) return OUTSIDE;
            long was = seed;
            seed = v;
            return (int) was;
        }

        int keep(int i) {
            if (i < 0 || i > 1) return UNKNOWN;
            images[i] = now.copy();
            imageSeeds[i] = seed;
            undo.clear();
            return 1;
        }

        int goBack(int i) {
            if (i < 0 || i > 1) return UNKNOWN;
            if (images[i] == null) return NOT;
            now = images[i].copy();
            seed = imageSeeds[i];
            undo.clear();
            return 1;
        }
    }

    private static int wrong = 0;
    private static String lastCall = "";

    public static void main(String[] args) {
        texts();
        for (int run = 0; run < RUNS && wrong < 20; run++) {
            oneRun(run);
        }
        System.out.println(wrong == 0 ? "all answers are as due" : wrong + " answers are not as due");
        if (wrong != 0) {
            System.exit(1);
        }
    }

    private static void due(int run, int i, int got, int want) {
        if (got != want) {
            wrong++;
            System.out.println("run " + run + ", call " + i + ": " + lastCall + " answered " + got + ", due is " + want);
        }
    }

    private static void texts() {
        Random r = new Random(5);
        for (int i = 0; i < 60000 && wrong < 20; i++) {
            DummyHunt x = new DummyHunt();
            Model m = new Model();
            String t = spoilt(r, text(r));
            for (int k = 0; k < t.length(); k++) {
                due(-1, i, x.feed(t.charAt(k)), m.feed(t.charAt(k)));
            }
            lastCall = "nursery() of '" + t + "'";
            due(-1, i, x.nursery(), m.nursery());
            due(-1, i, x.fault(), m.faultAt);
            due(-1, i, x.told(3), m.told(3));
        }
    }

    private static String text(Random r) {
        StringBuilder s = new StringBuilder("n" + (1 + r.nextInt(r.nextBoolean() ? 6 : 99)) + " " + r.nextInt(101) + ";");
        int kids = r.nextInt(7), things = Math.min(6, r.nextInt(4) == 0 ? r.nextInt(7) : kids + r.nextInt(3));
        List<Integer> owners = new ArrayList<>();
        int colours = 1 + r.nextInt(4);
        int told = 0;
        for (int d = 0; d <= things; d++) {
            while (told < kids && (d == things || r.nextInt(3) > 0)) {
                s.append("c").append(r.nextInt(4)).append(" ").append(r.nextInt(61)).append(";");
                owners.add(told++);
            }
            if (d < things) {
                int o = owners.isEmpty() || r.nextInt(4) == 0 ? 9 : owners.remove(r.nextInt(owners.size()));
                s.append("d").append(r.nextInt(colours)).append(" ").append(r.nextInt(1 + r.nextInt(4))).append(" ")
                    .append(r.nextInt(r.nextBoolean() ? 4 : 31)).append(" ").append(o).append(";");
            }
        }
        return s.toString();
    }

    private static String spoilt(Random r, String t) {
        if (r.nextInt(50) == 0) return " ".repeat(r.nextInt(4));
        StringBuilder s = new StringBuilder(t);
        String signs = "ncd; 0123456789 ;x";
        for (int n = r.nextInt(4); n > 0; n--) {
            int at = r.nextInt(s.length() + 1);
            char sign = signs.charAt(r.nextInt(signs.length()));
            int what = r.nextInt(4);
            if (what == 0 && at < s.length()) s.setCharAt(at, sign);
            else if (what == 1 && at < s.length()) s.deleteCharAt(at);
            else if (what == 2) s.insert(at, sign);
            else if (r.nextInt(3) == 0) s.setLength(at);
            else s.insert(at, " ");
        }
        return s.toString();
    }

    private static void oneRun(int run) {
        Random r = new Random(run);
        DummyHunt x = new DummyHunt();
        Model m = new Model();
        boolean heavy = run % 5 == 0;
        for (int i = 0; i < CALLS && wrong < 20; i++) {
            if (i == 0 && r.nextInt(20) > 0 || r.nextInt(300) == 0) {
                String t = r.nextInt(8) == 0 ? spoilt(r, text(r)) : text(r);
                if (i + t.length() + 1 >= CALLS) {
                    continue;
                }
                lastCall = "feed";
                for (int k = 0; k < t.length(); k++) {
                    due(run, i, x.feed(t.charAt(k)), m.feed(t.charAt(k)));
                }
                lastCall = "nursery() of '" + t + "'";
                due(run, i, x.nursery(), m.nursery());
                i += t.length() + 1;
            }
            oneCall(run, i, r, x, m, heavy);
        }
        for (int what = 0; what < LAST_CALLS; what++) {
            lastCall = "told at the end";
            due(run, what, x.told(what), m.told(what));
        }
    }

    private static int number(Random r) { return r.nextInt(30) == 0 ? r.nextInt(80) - 10 : r.nextInt(6); }

    private static int kid(Random r, Model m) {
        return m.kids.isEmpty() || r.nextInt(25) == 0 ? r.nextInt(10) - 2 : r.nextInt(m.kids.size());
    }

    private static int thing(Random r, Model m) {
        return m.things.isEmpty() || r.nextInt(25) == 0 ? r.nextInt(10) - 2 : r.nextInt(m.things.size());
    }

    /** What is tried comes from one hidden way, so that some ways are left. */
    private static boolean tookAsHidden(Model m, int run, int c, int d) {
        return m.kid(c) && m.thing(d) && m.takes(c, (c + run) % m.things.size(), d);
    }

    private static void oneCall(int run, int i, Random r, DummyHunt x, Model m, boolean heavy) {
        int which = r.nextInt(heavy ? 36 : 32);
        int c = kid(r, m), d = thing(r, m), n = number(r), k = r.nextInt(6) == 0 ? NONE : c;
        boolean yes = r.nextBoolean();
        boolean took = r.nextInt(12) == 0 ? yes : tookAsHidden(m, run, c, d);
        lastCall = "call " + which + " with c " + c + ", d " + d + ", n " + n + ", k " + k + ", " + yes;
        switch (which) {
            case 0: due(run, i, x.child(c, n), m.child(c, n)); break;
            case 1: due(run, i, x.dummy(d, n + 2), m.dummy(d, n + 2)); break;
            case 2: due(run, i, x.told(n * 2 + (yes ? 1 : 0)), m.told(n * 2 + (yes ? 1 : 0))); break;
            case 3: due(run, i, x.hour(n), m.hour(n)); break;
            case 4: case 5: case 6: case 7: due(run, i, x.give(d, c), m.give(d, c)); break;
            case 8: case 9: due(run, i, x.drop(d), m.drop(d)); break;
            case 10: due(run, i, x.pick(d), m.pick(d)); break;
            case 11: if (yes) due(run, i, x.boil(), m.boil()); break;
            case 12: due(run, i, x.cold(c), m.cold(c)); break;
            case 13: if (yes) due(run, i, x.drift(n), m.drift(n)); break;
            case 14: due(run, i, x.undo(), m.undo()); break;
            case 15: due(run, i, x.told(7), m.told(7)); break;
            case 16: due(run, i, x.trades(n - 1), m.trades(n - 1)); break;
            case 17: due(run, i, x.wants(c), m.wants(c)); break;
            case 18: due(run, i, x.wanted(d), m.wanted(d)); break;
            case 19:
                int things = r.nextInt(23), percent = r.nextInt(104) - 1, looks = r.nextInt(64) - 1;
                due(run, i, x.lost(things, percent, looks), m.lost(things, percent, looks));
                break;
            case 20: due(run, i, x.off(c), m.off(c)); break;
            case 21: due(run, i, x.quiet(n), m.quiet(n)); break;
            case 22: case 23: due(run, i, x.trial(c, d, took), m.trial(c, d, took)); break;
            case 24: due(run, i, x.write(d, k), m.write(d, k)); break;
            case 25: if (n < 2) due(run, i, x.tear(), m.tear()); break;
            case 26: due(run, i, x.judge(), m.judge()); break;
            case 27: if (yes) due(run, i, x.seed(n * 357913941), m.seed(n * 357913941)); break;
            case 28: if (n == 0) due(run, i, x.keep(c % 3), m.keep(c % 3)); break;
            case 29: if (n == 0) due(run, i, x.goBack(c % 3), m.goBack(c % 3)); break;
            case 30: due(run, i, x.fault(), m.faultAt); break;
            case 31: due(run, i, x.hour(1 + n * 12), m.hour(1 + n * 12)); break;
            case 32: due(run, i, x.mostCalm(yes, k), m.mostCalm(yes, k)); break;
            case 33: due(run, i, x.spares(d), m.spares(d)); break;
            case 34: due(run, i, x.whose(k), m.whose(k)); break;
            default: due(run, i, x.next(), m.next()); break;
        }
    }
}

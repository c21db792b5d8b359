/**
 * Whose dummy is that: a nursery told in a text, what is done in it, and what can be asked of it.
 * The document (DOC.md) says what each call answers; its words stand here in plain letters.
 */
public final class DummyHunt {
    public static final int NONE = -1, UNKNOWN = -1000000001, OUTSIDE = -1000000002, NOT = -1000000003, FULL = -1000000004;

    private static final int BILLION = 1000000000;
    private static final int TEXT_MOST = 240;
    private static final int HEADS_MOST = 6;
    private static final int SETS = 1 << HEADS_MOST;
    private static final int SPARE = 9;
    private static final int STEP_MOST = 60;
    private static final int HOURS_MOST = 9000;
    private static final int THINGS_MOST = 20;
    private static final int TRIES_MOST = 8;
    private static final int ENTRIES_MOST = 15;
    private static final int UNDO_MOST = 20;
    private static final int IMAGES = 2;

    private final Reader reader;
    private final Plan plan;
    private final Plan draft;
    private final Ward ward;
    private final Past past;
    private final Matcher matcher;
    private final Riddle riddle;
    private final Book book;
    private final Draws draws;
    private final Image[] images;
    private final int[] things;

    public DummyHunt() {
        reader = new Reader();
        plan = new Plan();
        draft = new Plan();
        ward = new Ward(plan);
        past = new Past();
        matcher = new Matcher();
        riddle = new Riddle(plan);
        book = new Book();
        draws = new Draws();
        images = new Image[IMAGES];
        for (int i = 0; i < IMAGES; i++) {
            images[i] = new Image();
        }
        things = new int[THINGS_MOST];
    }

    // ---- the nursery

    public int feed(int letter) {
        if (letter < 0 || letter > 255) {
            return OUTSIDE;
        }
        return reader.append(letter) ? reader.length : FULL;
    }

    public int nursery() {
        boolean sound = reader.readInto(draft);
        reader.length = 0;
        if (!sound) {
            return -10 - reader.faultKind;
        }
        plan.copyFrom(draft);
        ward.reset();
        past.forget();
        riddle.clear();
        book.count = 0;
        for (Image image : images) {
            if (image != null) {
                image.kept = false;
            }
        }
        return plan.children;
    }

    public int fault() {
        return reader.faultAt;
    }

    public int told(int what) {
        switch (what) {
            case 0: return plan.coldHours;
            case 1: return plan.odds;
            case 2: return plan.children;
            case 3: return plan.dummies;
            case 4: return reader.length;
            case 5: return ward.hours;
            case 6: return ward.calmSet();
            case 7: return ward.sickSet();
            case 8: return ward.setAt(Ward.ON_FLOOR);
            case 9: return ward.readableSet();
            case 10: return riddle.count;
            case 11: return book.count;
            case 12: return past.count;
            default: return OUTSIDE;
        }
    }

    public int child(int c, int what) {
        if (!plan.hasChild(c)) {
            return UNKNOWN;
        }
        switch (what) {
            case 0: return plan.habit[c];
            case 1: return plan.months[c];
            case 2: return ward.dummyOf(c);
            case 3: return plan.own[c];
            case 4: return ward.coldLeft[c];
            case 5: return ward.howled[c];
            default: return OUTSIDE;
        }
    }

    public int dummy(int d, int what) {
        if (!plan.hasDummy(d)) {
            return UNKNOWN;
        }
        switch (what) {
            case 0: return plan.colour[d];
            case 1: return plan.side[d];
            case 2: return plan.markLasts[d];
            case 3: return plan.owner[d];
            case 4: return ward.holderOf(d);
            case 5: return ward.boilings[d];
            case 6: return ward.germs[d];
            case 7: return ward.kindOfPlace(d);
            default: return OUTSIDE;
        }
    }

    // ---- what is done

    public int hour(int n) {
        int refusal = refusalOfHours(n);
        if (refusal != 0) {
            return refusal;
        }
        past.remember(ward);
        for (int i = 0; i < n; i++) {
            ward.passHour();
        }
        return ward.hours;
    }

    public int give(int d, int c) {
        if (!plan.hasDummy(d) || !plan.hasChild(c)) {
            return UNKNOWN;
        }
        if (!ward.canHand(d, c)) {
            return NOT;
        }
        past.remember(ward);
        ward.hand(d, c);
        return plan.takes(c, d) ? 1 : 0;
    }

    public int drop(int d) {
        if (!plan.hasDummy(d)) {
            return UNKNOWN;
        }
        int holder = ward.holderOf(d);
        if (holder == NONE) {
            return NOT;
        }
        past.remember(ward);
        ward.place[d] = Ward.ON_FLOOR;
        return holder;
    }

    public int pick(int d) {
        if (!plan.hasDummy(d)) {
            return UNKNOWN;
        }
        if (ward.place[d] != Ward.ON_FLOOR) {
            return NOT;
        }
        past.remember(ward);
        ward.place[d] = Ward.IN_BOX;
        return ward.setAt(Ward.ON_FLOOR);
    }

    public int boil() {
        int boiled = ward.setAt(Ward.IN_BOX);
        if (boiled == 0) {
            return NOT;
        }
        past.remember(ward);
        ward.boilAll(boiled);
        return boiled;
    }

    public int cold(int c) {
        if (!plan.hasChild(c)) {
            return UNKNOWN;
        }
        past.remember(ward);
        ward.coldLeft[c] = plan.coldHours;
        return ward.coldLeft[c];
    }

    public int drift(int n) {
        int refusal = refusalOfHours(n);
        if (refusal != 0) {
            return refusal;
        }
        past.remember(ward);
        for (int i = 0; i < n; i++) {
            if (plan.children > 0 && plan.dummies > 0) {
                deedByDraws();
            }
            ward.passHour();
        }
        return ward.calmSet();
    }

    public int undo() {
        if (past.count == 0) {
            return NOT;
        }
        past.recall(ward);
        return past.count;
    }

    // ---- tried

    public int mostCalm(boolean safe, int c) {
        if (c != NONE && !plan.hasChild(c)) {
            return UNKNOWN;
        }
        matcher.prepare(plan, ward, safe);
        return c == NONE ? matcher.most(0) : matcher.dummyFor(c);
    }

    public int trades(int i) {
        int found = 0;
        for (int a = 0; a < plan.children; a++) {
            for (int b = a + 1; b < plan.children; b++) {
                if (!ward.tradeCalms(a, b)) {
                    continue;
                }
                if (found == i) {
                    return 10 * a + b;
                }
                found++;
            }
        }
        return i == NONE ? found : NONE;
    }

    public int wants(int c) {
        if (!plan.hasChild(c)) {
            return UNKNOWN;
        }
        int sum = 0;
        for (int d = 0; d < plan.dummies; d++) {
            if (plan.takes(c, d)) {
                sum++;
            }
        }
        return sum;
    }

    public int wanted(int d) {
        if (!plan.hasDummy(d)) {
            return UNKNOWN;
        }
        int sum = 0;
        for (int c = 0; c < plan.children; c++) {
            if (plan.takes(c, d)) {
                sum++;
            }
        }
        return sum;
    }

    public int lost(int n, int p, int k) {
        if (n < 1 || n > THINGS_MOST || p < 0 || p > 100 || k < 0 || k > STEP_MOST) {
            return OUTSIDE;
        }
        if (ward.setAt(Ward.ON_FLOOR) == 0) {
            return NOT;
        }
        for (int i = 0; i < n; i++) {
            things[i] = BILLION / n;
        }
        int sum = 0;
        for (int look = 0; look < k; look++) {
            int i = look % n;
            int found = percentOf(things[i], p);
            things[i] -= found;
            sum += found;
        }
        return sum;
    }

    public int spares(int d) {
        if (!plan.hasDummy(d)) {
            return UNKNOWN;
        }
        matcher.prepare(plan, ward, false);
        return matcher.most(0) - matcher.most(1 << d);
    }

    public int off(int c) {
        if (!plan.hasChild(c)) {
            return UNKNOWN;
        }
        int left = 100 - plan.months[c];
        return plan.habit[c] == Plan.TAKES_ANY ? 2 * left : left;
    }

    public int quiet(int n) {
        if (n < 0 || n > STEP_MOST) {
            return OUTSIDE;
        }
        int odds = BILLION;
        for (int i = 0; i < n; i++) {
            odds = percentOf(odds, 100 - plan.odds);
        }
        return odds;
    }

    // ---- what was tried

    public int trial(int c, int d, boolean took) {
        if (!plan.hasChild(c) || !plan.hasDummy(d)) {
            return UNKNOWN;
        }
        return riddle.append(c, d, took) ? riddle.count : FULL;
    }

    public int whose(int c) {
        if (c != NONE && !plan.hasChild(c)) {
            return UNKNOWN;
        }
        if (plan.dummies < plan.children) {
            return NOT;
        }
        riddle.solve();
        return c == NONE ? riddle.ways : riddle.sureDummyOf(c);
    }

    public int next() {
        if (plan.dummies < plan.children) {
            return NOT;
        }
        riddle.solve();
        return riddle.bestQuestion();
    }

    public int write(int d, int c) {
        if (!plan.hasDummy(d) || (c != NONE && !plan.hasChild(c))) {
            return UNKNOWN;
        }
        return book.append(d, c) ? book.count : FULL;
    }

    public int tear() {
        int had = riddle.count + book.count;
        riddle.clear();
        book.count = 0;
        return had;
    }

    public int judge() {
        return book.firstWrong(ward);
    }

    // ---- draws, images

    public int seed(int v) {
        if (v < 0) {
            return OUTSIDE;
        }
        int was = draws.state;
        draws.state = v;
        return was;
    }

    public int keep(int i) {
        Image image = imageAt(i);
        if (image == null) {
            return UNKNOWN;
        }
        image.takeFrom(ward, draws);
        past.forget();
        return 1;
    }

    public int goBack(int i) {
        Image image = imageAt(i);
        if (image == null) {
            return UNKNOWN;
        }
        if (!image.kept) {
            return NOT;
        }
        image.putInto(ward, draws);
        past.forget();
        return 1;
    }

    // ---- helpers of the calls

    /** null if there is no such image. */
    private Image imageAt(int i) {
        return i >= 0 && i < images.length ? images[i] : null;
    }

    /** 0 if n hours can pass now. */
    private int refusalOfHours(int n) {
        if (n < 1 || n > STEP_MOST) {
            return OUTSIDE;
        }
        if (!plan.there) {
            return NOT;
        }
        return ward.hours > HOURS_MOST ? FULL : 0;
    }

    /** What comes ahead of an hour that passes by draws; there are children and dummies. */
    private void deedByDraws() {
        int d = draws.draw(plan.dummies);
        int c = draws.draw(plan.children);
        int deed = draws.draw(4);
        if (deed == 0) {
            if (ward.holderOf(d) != NONE) {
                ward.place[d] = Ward.ON_FLOOR;
            }
        } else if (deed == 1) {
            if (ward.place[d] == Ward.ON_FLOOR) {
                ward.place[d] = Ward.IN_BOX;
            }
        } else if (ward.canHand(d, c)) {
            ward.hand(d, c);
        }
        if (draws.draw(100) < plan.odds) {
            ward.coldLeft[c] = plan.coldHours;
        }
    }

    /** In long, as a billion times a hundred is beyond an int. */
    private static int percentOf(int amount, int percent) {
        return (int) ((long) amount * percent / 100);
    }

    private static boolean isIn(int set, int k) {
        return (set >> k & 1) != 0;
    }

    /** What a text tells: section 1. It holds at most HEADS_MOST children and dummies. */
    private static final class Plan {
        private static final int TAKES_SIDE = 1, TAKES_COLOUR = 2, TAKES_ANY = 3;

        private boolean there;
        private int coldHours;
        private int odds;
        private int children;
        private int dummies;
        private final int[] habit = new int[HEADS_MOST];
        private final int[] months = new int[HEADS_MOST];
        private final int[] own = new int[HEADS_MOST];
        private final int[] colour = new int[HEADS_MOST];
        private final int[] side = new int[HEADS_MOST];
        private final int[] markLasts = new int[HEADS_MOST];
        private final int[] owner = new int[HEADS_MOST];

        private void reset() {
            there = false;
            coldHours = 0;
            odds = 0;
            children = 0;
            dummies = 0;
        }

        private void copyFrom(Plan other) {
            there = other.there;
            coldHours = other.coldHours;
            odds = other.odds;
            children = other.children;
            dummies = other.dummies;
            copyRow(other.habit, habit);
            copyRow(other.months, months);
            copyRow(other.own, own);
            copyRow(other.colour, colour);
            copyRow(other.side, side);
            copyRow(other.markLasts, markLasts);
            copyRow(other.owner, owner);
        }

        private static void copyRow(int[] from, int[] to) {
            System.arraycopy(from, 0, to, 0, HEADS_MOST);
        }

        private void addChild(int habitNow, int monthsNow) {
            if (children >= HEADS_MOST) {
                return;
            }
            habit[children] = habitNow;
            months[children] = monthsNow;
            own[children] = NONE;
            children++;
        }

        private void addDummy(int colourNow, int sideNow, int lasts, int ownerNow) {
            if (dummies >= HEADS_MOST) {
                return;
            }
            colour[dummies] = colourNow;
            side[dummies] = sideNow;
            markLasts[dummies] = lasts;
            owner[dummies] = ownerNow;
            if (hasChild(ownerNow)) {
                own[ownerNow] = dummies;
            }
            dummies++;
        }

        private boolean hasChild(int c) {
            return c >= 0 && c < children;
        }

        private boolean hasDummy(int d) {
            return d >= 0 && d < dummies;
        }

        private boolean takes(int c, int d) {
            return hasChild(c) && takesOwning(c, own[c], d);
        }

        /** Whether child c would take dummy d, if dummy mine (or NONE) were its own. */
        private boolean takesOwning(int c, int mine, int d) {
            if (!hasChild(c) || !hasDummy(d)) {
                return false;
            }
            if (habit[c] == TAKES_ANY) {
                return true;
            }
            if (!hasDummy(mine)) {
                return false;
            }
            if (habit[c] == TAKES_SIDE) {
                return side[d] == side[mine];
            }
            if (habit[c] == TAKES_COLOUR) {
                return colour[d] == colour[mine];
            }
            return d == mine;
        }
    }

    /** The text, and how it is read: the first fault stops the reading. */
    private static final class Reader {
        private static final int END = -1;
        private static final int MISPLACED = 1, OUT_OF_BOUNDS = 2, TOO_MANY = 3, OWNS_ALREADY = 4;
        private static final int FIGURES_MOST = 3, NUMBER_MOST = 999;

        private final int[] letters = new int[TEXT_MOST];
        private int length;
        private int at;
        private int numberAt;
        private int faultKind;
        private int faultAt = NONE;

        private boolean append(int letter) {
            if (length >= TEXT_MOST) {
                return false;
            }
            letters[length] = letter;
            length++;
            return true;
        }

        /** Whether the text has no fault; one without a word, empty or of blanks, leaves the plan without a nursery. */
        private boolean readInto(Plan to) {
            to.reset();
            at = 0;
            faultKind = 0;
            faultAt = NONE;
            skipBlanks();
            if (at >= length) {
                return true;
            }
            readHead(to);
            skipBlanks();
            for (int clause = 0; clause < TEXT_MOST && faultKind == 0 && at < length; clause++) {
                readClause(to);
                skipBlanks();
            }
            return faultKind == 0;
        }

        private void readHead(Plan to) {
            if (letterHere() != 'n') {
                fail(MISPLACED, at);
                return;
            }
            at++;
            int coldHours = readNumber(1, 99);
            int odds = readNumber(0, 100);
            readSemicolon();
            to.there = true;
            to.coldHours = coldHours;
            to.odds = odds;
        }

        private void readClause(Plan to) {
            int word = letterHere();
            if (word == 'c') {
                readChild(to);
            } else if (word == 'd') {
                readDummy(to);
            } else {
                fail(word == 'n' ? TOO_MANY : MISPLACED, at);
            }
        }

        private void readChild(Plan to) {
            if (to.children >= HEADS_MOST) {
                fail(TOO_MANY, at);
                return;
            }
            at++;
            int habit = readNumber(0, 3);
            int months = readNumber(0, 60);
            readSemicolon();
            if (faultKind == 0) {
                to.addChild(habit, months);
            }
        }

        private void readDummy(Plan to) {
            if (to.dummies >= HEADS_MOST) {
                fail(TOO_MANY, at);
                return;
            }
            at++;
            int colour = readNumber(0, 9);
            int side = readNumber(0, 3);
            int lasts = readNumber(0, 30);
            int owner = readOwner(to);
            readSemicolon();
            if (faultKind == 0) {
                to.addDummy(colour, side, lasts, owner);
            }
        }

        private int readOwner(Plan to) {
            int owner = readNumber(0, NUMBER_MOST);
            if (faultKind != 0 || owner == SPARE) {
                return owner;
            }
            if (!to.hasChild(owner)) {
                fail(OUT_OF_BOUNDS, numberAt);
            } else if (to.own[owner] != NONE) {
                fail(OWNS_ALREADY, numberAt);
            }
            return owner;
        }

        private int readNumber(int least, int most) {
            if (faultKind != 0) {
                return 0;
            }
            skipBlanks();
            if (!isFigure(letterHere())) {
                fail(MISPLACED, at);
                return 0;
            }
            numberAt = at;
            int value = 0;
            int figures = 0;
            for (int i = 0; i < TEXT_MOST && isFigure(letterHere()); i++) {
                figures++;
                if (figures <= FIGURES_MOST) {
                    value = 10 * value + letterHere() - '0';
                }
                at++;
            }
            if (figures > FIGURES_MOST || value < least || value > most) {
                fail(OUT_OF_BOUNDS, numberAt);
            }
            return value;
        }

        private void readSemicolon() {
            if (faultKind != 0) {
                return;
            }
            skipBlanks();
            if (letterHere() != ';') {
                fail(MISPLACED, at);
                return;
            }
            at++;
        }

        private void skipBlanks() {
            while (at >= 0 && at < length && at < TEXT_MOST && letters[at] == ' ') {
                at++;
            }
        }

        private int letterHere() {
            return at >= 0 && at < length && at < TEXT_MOST ? letters[at] : END;
        }

        private static boolean isFigure(int letter) {
            return letter >= '0' && letter <= '9';
        }

        private void fail(int kind, int where) {
            if (faultKind == 0) {
                faultKind = kind;
                faultAt = where;
            }
        }
    }

    /** What is so in the nursery: section 2. */
    private static final class Ward {
        private static final int IN_BOX = -1, ON_FLOOR = -2;
        private static final int CELLS = 5 * HEADS_MOST + 1;

        private final Plan plan;
        private int hours;
        /** IN_BOX, ON_FLOOR or the child that has it. */
        private final int[] place = new int[HEADS_MOST];
        private final int[] boilings = new int[HEADS_MOST];
        private final int[] germs = new int[HEADS_MOST];
        private final int[] coldLeft = new int[HEADS_MOST];
        private final int[] howled = new int[HEADS_MOST];

        private Ward(Plan plan) {
            this.plan = plan;
        }

        private void reset() {
            hours = 0;
            for (int k = 0; k < HEADS_MOST; k++) {
                place[k] = IN_BOX;
                boilings[k] = 0;
                germs[k] = 0;
                coldLeft[k] = 0;
                howled[k] = 0;
            }
        }

        private void saveTo(int[] cells, int from) {
            if (from < 0 || from > cells.length - CELLS) {
                return;
            }
            cells[from] = hours;
            System.arraycopy(place, 0, cells, from + 1, HEADS_MOST);
            System.arraycopy(boilings, 0, cells, from + 1 + HEADS_MOST, HEADS_MOST);
            System.arraycopy(germs, 0, cells, from + 1 + 2 * HEADS_MOST, HEADS_MOST);
            System.arraycopy(coldLeft, 0, cells, from + 1 + 3 * HEADS_MOST, HEADS_MOST);
            System.arraycopy(howled, 0, cells, from + 1 + 4 * HEADS_MOST, HEADS_MOST);
        }

        private void loadFrom(int[] cells, int from) {
            if (from < 0 || from > cells.length - CELLS) {
                return;
            }
            hours = cells[from];
            System.arraycopy(cells, from + 1, place, 0, HEADS_MOST);
            System.arraycopy(cells, from + 1 + HEADS_MOST, boilings, 0, HEADS_MOST);
            System.arraycopy(cells, from + 1 + 2 * HEADS_MOST, germs, 0, HEADS_MOST);
            System.arraycopy(cells, from + 1 + 3 * HEADS_MOST, coldLeft, 0, HEADS_MOST);
            System.arraycopy(cells, from + 1 + 4 * HEADS_MOST, howled, 0, HEADS_MOST);
        }

        private int holderOf(int d) {
            return plan.hasDummy(d) && place[d] >= 0 ? place[d] : NONE;
        }

        private int kindOfPlace(int d) {
            if (holderOf(d) != NONE) {
                return 2;
            }
            return plan.hasDummy(d) && place[d] == ON_FLOOR ? 1 : 0;
        }

        private int dummyOf(int c) {
            for (int d = 0; d < plan.dummies; d++) {
                if (place[d] == c) {
                    return d;
                }
            }
            return NONE;
        }

        private int setAt(int where) {
            int set = 0;
            for (int d = 0; d < plan.dummies; d++) {
                if (place[d] == where) {
                    set |= 1 << d;
                }
            }
            return set;
        }

        private int readableSet() {
            int set = 0;
            for (int d = 0; d < plan.dummies; d++) {
                if (boilings[d] < plan.markLasts[d]) {
                    set |= 1 << d;
                }
            }
            return set;
        }

        private int calmSet() {
            int set = 0;
            for (int c = 0; c < plan.children; c++) {
                if (plan.takes(c, dummyOf(c))) {
                    set |= 1 << c;
                }
            }
            return set;
        }

        private int sickSet() {
            int set = 0;
            for (int c = 0; c < plan.children; c++) {
                if (coldLeft[c] > 0) {
                    set |= 1 << c;
                }
            }
            return set;
        }

        /** Whether child c, who has no cold, could get one by dummy d. */
        private boolean infects(int d, int c) {
            int sick = sickSet();
            return !isIn(sick, c) && plan.hasDummy(d) && (germs[d] & sick) != 0;
        }

        private boolean canHand(int d, int c) {
            return plan.hasDummy(d) && holderOf(d) == NONE && dummyOf(c) == NONE;
        }

        private void hand(int d, int c) {
            if (!plan.hasDummy(d) || !plan.hasChild(c)) {
                return;
            }
            place[d] = c;
            if (!plan.takes(c, d)) {
                return;
            }
            if (infects(d, c)) {
                coldLeft[c] = plan.coldHours;
            }
            germs[d] |= 1 << c;
        }

        private void boilAll(int set) {
            for (int d = 0; d < plan.dummies; d++) {
                if (isIn(set, d)) {
                    germs[d] = 0;
                    boilings[d]++;
                }
            }
        }

        private void passHour() {
            int calm = calmSet();
            for (int c = 0; c < plan.children; c++) {
                if (!isIn(calm, c)) {
                    howled[c]++;
                }
                if (coldLeft[c] > 0) {
                    coldLeft[c]--;
                }
            }
            hours++;
        }

        /** Whether more of a and b, who both have one, would be calm if they changed. */
        private boolean tradeCalms(int a, int b) {
            int ofA = dummyOf(a);
            int ofB = dummyOf(b);
            if (ofA == NONE || ofB == NONE) {
                return false;
            }
            return calmOf(a, ofA) + calmOf(b, ofB) < calmOf(a, ofB) + calmOf(b, ofA);
        }

        private int calmOf(int c, int d) {
            return plan.takes(c, d) ? 1 : 0;
        }
    }

    /** What can be undone, in a ring, so that the oldest are lost first. */
    private static final class Past {
        private final int[] cells = new int[UNDO_MOST * Ward.CELLS];
        private int top;
        private int count;

        private void remember(Ward ward) {
            ward.saveTo(cells, top * Ward.CELLS);
            top = (top + 1) % UNDO_MOST;
            count = Math.min(count + 1, UNDO_MOST);
        }

        private void recall(Ward ward) {
            if (count == 0) {
                return;
            }
            top = (top + UNDO_MOST - 1) % UNDO_MOST;
            count--;
            ward.loadFrom(cells, top * Ward.CELLS);
        }

        private void forget() {
            top = 0;
            count = 0;
        }
    }

    /** Which dummy to which child, so that most are calm. */
    private static final class Matcher {
        private int children;
        private int dummies;
        private final int[] allowed = new int[HEADS_MOST];
        /** best[c][used]: how many of the children from c on can be calm, if those dummies are used. */
        private final int[][] best = new int[HEADS_MOST + 1][SETS];

        private void prepare(Plan plan, Ward ward, boolean safe) {
            children = plan.children;
            dummies = plan.dummies;
            for (int c = 0; c < children; c++) {
                allowed[c] = 0;
                for (int d = 0; d < dummies; d++) {
                    if (plan.takes(c, d) && !(safe && ward.infects(d, c))) {
                        allowed[c] |= 1 << d;
                    }
                }
            }
            fill();
        }

        private void fill() {
            for (int used = 0; used < SETS; used++) {
                best[children][used] = 0;
            }
            for (int c = children - 1; c >= 0; c--) {
                for (int used = 0; used < SETS; used++) {
                    best[c][used] = bestFrom(c, used);
                }
            }
        }

        private int bestFrom(int c, int used) {
            int most = best[c + 1][used];
            for (int d = 0; d < dummies; d++) {
                if (isIn(allowed[c] & ~used, d)) {
                    most = Math.max(most, 1 + best[c + 1][used | 1 << d]);
                }
            }
            return most;
        }

        private int most(int used) {
            return used >= 0 && used < SETS ? best[0][used] : 0;
        }

        private int dummyFor(int child) {
            int used = 0;
            for (int c = 0; c < children; c++) {
                int d = firstBest(c, used);
                if (c == child) {
                    return d;
                }
                if (d != NONE) {
                    used |= 1 << d;
                }
            }
            return NONE;
        }

        private int firstBest(int c, int used) {
            for (int d = 0; d < dummies; d++) {
                if (isIn(allowed[c] & ~used, d) && 1 + best[c + 1][used | 1 << d] == best[c][used]) {
                    return d;
                }
            }
            return NONE;
        }
    }

    /** Whose is which, by what they took and refused. */
    private static final class Riddle {
        private final Plan plan;
        private int count;
        private final int[] triedChild = new int[TRIES_MOST];
        private final int[] triedDummy = new int[TRIES_MOST];
        private final boolean[] tookIt = new boolean[TRIES_MOST];
        private final int[] allowed = new int[HEADS_MOST];
        private int ways;
        /** By the set of dummies owned: ways of the children so far, and of those to come. */
        private final int[] ahead = new int[SETS];
        private final int[] behind = new int[SETS];
        /** tally[c][d]: in how many ways child c owns dummy d. */
        private final int[][] tally = new int[HEADS_MOST][HEADS_MOST];

        private Riddle(Plan plan) {
            this.plan = plan;
        }

        private void clear() {
            count = 0;
        }

        private boolean append(int c, int d, boolean took) {
            if (count >= TRIES_MOST) {
                return false;
            }
            triedChild[count] = c;
            triedDummy[count] = d;
            tookIt[count] = took;
            count++;
            return true;
        }

        private void solve() {
            for (int c = 0; c < plan.children; c++) {
                allowed[c] = 0;
                for (int d = 0; d < plan.dummies; d++) {
                    tally[c][d] = 0;
                    if (fits(c, d)) {
                        allowed[c] |= 1 << d;
                    }
                }
            }
            countWays();
        }

        /** Whether all that child c took and refused is so, if dummy mine is its own. */
        private boolean fits(int c, int mine) {
            for (int i = 0; i < count; i++) {
                if (triedChild[i] == c && plan.takesOwning(c, mine, triedDummy[i]) != tookIt[i]) {
                    return false;
                }
            }
            return true;
        }

        /** As many dummies are owned as children are told of, so a set alone tells how far a way has come. */
        private void countWays() {
            int sets = 1 << plan.dummies;
            for (int set = 0; set < sets && set < SETS; set++) {
                ahead[set] = set == 0 ? 1 : sumAhead(set, Integer.bitCount(set) - 1);
            }
            for (int set = Math.min(sets, SETS) - 1; set >= 0; set--) {
                behind[set] = sumBehind(set, Integer.bitCount(set));
            }
            ways = behind[0];
        }

        /** Ways in which the children up to c own just that set. */
        private int sumAhead(int set, int c) {
            int sum = 0;
            for (int d = 0; d < plan.dummies && plan.hasChild(c); d++) {
                if (isIn(allowed[c] & set, d)) {
                    sum += ahead[set & ~(1 << d)];
                }
            }
            return sum;
        }

        /** Ways in which the children from c on own others than that set; they are counted for c, too. */
        private int sumBehind(int set, int c) {
            if (!plan.hasChild(c)) {
                return 1;
            }
            int sum = 0;
            for (int d = 0; d < plan.dummies; d++) {
                if (isIn(allowed[c] & ~set, d)) {
                    int rest = behind[set | 1 << d];
                    tally[c][d] += ahead[set] * rest;
                    sum += rest;
                }
            }
            return sum;
        }

        private int sureDummyOf(int c) {
            if (ways == 0 || !plan.hasChild(c)) {
                return NONE;
            }
            for (int d = 0; d < plan.dummies; d++) {
                if (tally[c][d] == ways) {
                    return d;
                }
            }
            return NONE;
        }

        private int bestQuestion() {
            int question = NONE;
            int least = ways;
            for (int c = 0; c < plan.children; c++) {
                for (int d = 0; d < plan.dummies; d++) {
                    int yes = waysToTake(c, d);
                    int part = Math.max(yes, ways - yes);
                    if (part < least) {
                        least = part;
                        question = 10 * c + d;
                    }
                }
            }
            return question;
        }

        private int waysToTake(int c, int d) {
            int sum = 0;
            for (int mine = 0; mine < plan.dummies; mine++) {
                if (plan.takesOwning(c, mine, d)) {
                    sum += tally[c][mine];
                }
            }
            return sum;
        }
    }

    /** Who is said to have which dummy. */
    private static final class Book {
        private int count;
        private final int[] dummyOf = new int[ENTRIES_MOST];
        private final int[] holderOf = new int[ENTRIES_MOST];

        private boolean append(int d, int c) {
            if (count >= ENTRIES_MOST) {
                return false;
            }
            dummyOf[count] = d;
            holderOf[count] = c;
            count++;
            return true;
        }

        private int firstWrong(Ward ward) {
            for (int i = 0; i < count; i++) {
                if (ward.holderOf(dummyOf[i]) != holderOf[i]) {
                    return i;
                }
            }
            return NONE;
        }
    }

    /** The seed and its draws. */
    private static final class Draws {
        private int state;

        private int draw(int n) {
            state = (int) (state * 1103515245L + 12345L & 2147483647L);
            return n > 0 ? state / 65536 % n : 0;
        }
    }

    /** What was so, with the seed. */
    private static final class Image {
        private boolean kept;
        private int seed;
        private final int[] cells = new int[Ward.CELLS];

        private void takeFrom(Ward ward, Draws draws) {
            kept = true;
            seed = draws.state;
            ward.saveTo(cells, 0);
        }

        private void putInto(Ward ward, Draws draws) {
            ward.loadFrom(cells, 0);
            draws.state = seed;
        }
    }
}

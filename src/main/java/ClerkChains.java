/**
 * Clerks along a corridor, hooked on one another in strings, and the magnets that draw them.
 * The document's words in capitals (STRING, FELT, DRAWN ..) mean here what they mean there.
 */
public final class ClerkChains {
    public static final int NONE = -1, BAD = -2, NO = -3, FULL = -4;

    private static final int CLERKS = 7;
    private static final int MAGNETS = 3;
    private static final int KINDS = 6;
    private static final int LAST_DESK = 11;
    private static final int MOST_WEIGHT = 9;
    private static final int MOST_TUG = 20;
    private static final int MOST_RUST = 99;
    private static final int LAST_DAY = 999;
    private static final int MOST_DAYS = 60;
    private static final int MOST_TEXT = 150;

    // The columns of CLERKS are numbered as of(i, what) numbers them; MAGNETS share the first two.
    private static final int KIND = 0, DESK = 1, WEIGHT = 2, RUST = 3, ON = 4;
    private static final int POWER = 2;

    private static final int BAD_STRING = -1000, BAD_LIFTS = -10, FEWER_LIFTS = -5, BAD_STATUS = -1;

    private final Office now = new Office();
    private final Office draft = new Office();
    private final Office firstImage = new Office();
    private final Office secondImage = new Office();
    private boolean firstKept;
    private boolean secondKept;
    private final Text text = new Text();
    private final Fraction fraction = new Fraction();
    private final int[] refused = new int[3];
    private final Tug tug = new Tug();
    private final Guess guess = new Guess();
    private final Tables tables = new Tables();
    // What the calls that change nothing may change in its stead.
    private final Rows trial = new Rows(CLERKS, 5);

    public ClerkChains() {
    }

    // ---- an office

    public int office() {
        int were = now.clerks.size();
        now.empty();
        return were;
    }

    public int clerk(int kind, int desk, int weight) {
        if (!isKind(kind) || !isDesk(desk) || !within(weight, 1, MOST_WEIGHT)) {
            return refuse(BAD);
        }
        return now.clerks.isFull() ? refuse(FULL) : now.addClerk(kind, desk, weight);
    }

    public int magnet(int kind, int desk, int power) {
        if (!isKind(kind) || !isDesk(desk) || !within(power, 1, MOST_WEIGHT)) {
            return refuse(BAD);
        }
        return now.magnets.isFull() ? refuse(FULL) : now.addMagnet(kind, desk, power);
    }

    public int type(int c) {
        if (!within(c, 0, 127)) {
            return refuse(BAD);
        }
        return text.isFull() ? refuse(FULL) : text.append(c);
    }

    public int clear() {
        int were = text.length();
        text.empty();
        return were;
    }

    public int read() {
        int items = text.readInto(draft);
        if (items >= 0) {
            now.copyFrom(draft);
        }
        return items;
    }

    // ---- days

    public int hook(int i, int j) {
        if (!isClerk(i) || !isClerk(j) || i == j) {
            return refuse(BAD);
        }
        if (now.clerks.get(i, ON) != NONE || Chains.hangsOn(now.clerks, j, i)) {
            return refuse(NO);
        }
        if (Chains.holdsTwo(now.clerks, j)) {
            return refuse(FULL);
        }
        now.remember();
        now.clerks.put(i, ON, j);
        return Integer.bitCount(Chains.members(now.clerks, i));
    }

    public int unbend(int i) {
        if (!isClerk(i)) {
            return refuse(BAD);
        }
        int was = now.clerks.get(i, ON);
        if (was == NONE) {
            return refuse(NO);
        }
        now.remember();
        now.clerks.put(i, ON, NONE);
        return was;
    }

    public int day(int n) {
        if (!within(n, 1, MOST_DAYS)) {
            return refuse(BAD);
        }
        now.remember();
        return now.passDays(n);
    }

    public int undo() {
        if (now.past.size() == 0) {
            return refuse(NO);
        }
        now.goBack();
        return now.day;
    }

    public int of(int i, int what) {
        return isClerk(i) && within(what, KIND, ON) ? now.clerks.get(i, what) : refuse(BAD);
    }

    // ---- tugs

    public int felt(int i, int t, int j) {
        if (!isClerk(i) || !isTug(t) || j != NONE && !isClerk(j)) {
            return refuse(BAD);
        }
        tug.spread(now.clerks, i, t);
        return j == NONE ? tug.whoFeel() : tug.feltBy(j);
    }

    public int least(int i, int j) {
        if (!isClerk(i) || !isClerk(j)) {
            return refuse(BAD);
        }
        for (int t = 1; t <= MOST_TUG; t++) {
            tug.spread(now.clerks, i, t);
            if (tug.feltBy(j) > 0) {
                return t;
            }
        }
        return NONE;
    }

    public int quiet(int j, int others) {
        if (!isClerk(j) || !within(others, 0, (1 << now.clerks.size()) - 1)) {
            return refuse(BAD);
        }
        for (int t = 1; t <= MOST_TUG; t++) {
            for (int i = 0; i < now.clerks.size(); i++) {
                tug.spread(now.clerks, i, t);
                if (tug.feltBy(j) > 0 && (tug.whoFeel() & others) == 0) {
                    return 100 * t + i;
                }
            }
        }
        return NONE;
    }

    public int string(int i, int what) {
        if (!isClerk(i) || !within(what, 0, 3)) {
            refuse(BAD);
            return BAD_STRING;
        }
        int members = Chains.members(now.clerks, i);
        switch (what) {
            case 0:
                return members;
            case 1:
                return Chains.weight(now.clerks, members);
            case 2:
                return Chains.longest(now.clerks, members);
            default:
                return Drawing.drawn(now.clerks, now.magnets, members, now.day);
        }
    }

    public int strings(int what) {
        if (!within(what, 0, 1)) {
            return refuse(BAD);
        }
        return what == 0 ? Chains.howMany(now.clerks) : Chains.ends(now.clerks);
    }

    public int then(int i, int m) {
        if (!isClerk(i) || !within(m, 0, MOST_DAYS)) {
            return refuse(BAD);
        }
        trial.copyFrom(now.clerks);
        Drawing.passDays(trial, now.magnets, now.day, m);
        return trial.get(i, DESK);
    }

    public int lunch(int n) {
        return within(n, 1, CLERKS) ? tables.fewest(now.clerks, n) : refuse(BAD);
    }

    public int free(int w) {
        return within(w, 1, CLERKS * MOST_WEIGHT) ? tables.fewestUnbent(now.clerks, w) : refuse(BAD);
    }

    public int caught(int i) {
        if (!isClerk(i)) {
            return refuse(BAD);
        }
        return now.clerks.get(i, ON) != NONE ? refuse(NO) : Chains.holdersFor(now.clerks, i);
    }

    // ---- who was on whom

    public int told(int a, int t, int b, int x) {
        if (!isClerk(a) || !isTug(t) || !isClerk(b) || !within(x, 0, MOST_TUG)) {
            return refuse(BAD);
        }
        return keep(now.told, a, t, b, x, 0);
    }

    public int found(int i) {
        if (!isClerk(i)) {
            return refuse(BAD);
        }
        if (now.clerks.get(i, ON) != NONE) {
            return refuse(NO);
        }
        trial.copyFrom(now.clerks);
        int bits = tug.agrees(trial, now.told) ? 1 << CLERKS : 0;
        int holders = Chains.holdersFor(now.clerks, i);
        for (int j = 0; j < now.clerks.size(); j++) {
            if (hasBit(holders, j)) {
                trial.put(i, ON, j);
                bits |= tug.agrees(trial, now.told) ? 1 << j : 0;
            }
        }
        return bits;
    }

    public int note(int i, int t, int u, int x) {
        if (!isClerk(i) || !isTug(t) || !within(u, 0, MOST_RUST) || !within(x, 0, MOST_TUG)) {
            return refuse(BAD);
        }
        return keep(now.notes, i, t, u, x, 0);
    }

    public int mark(int m, int p, int f, int d, int x) {
        if (!isMagnet(m) || !within(p, 1, MOST_WEIGHT) || !isDesk(f)
                || !within(d, 0, 99) || !within(x, -40, 40)) {
            return refuse(BAD);
        }
        return keep(now.marks, m, p, f, d, x);
    }

    public int forget(int what) {
        switch (what) {
            case 0:
                return drop(now.told);
            case 1:
                return drop(now.notes);
            case 2:
                return drop(now.marks);
            default:
                return refuse(BAD);
        }
    }

    public int is(int i) {
        return isClerk(i) ? Guess.clerkKinds(now.notes, i) : refuse(BAD);
    }

    public int look(int i) {
        return isClerk(i) ? guess.nextLook(Guess.clerkKinds(now.notes, i)) : refuse(BAD);
    }

    public int kinds(int m) {
        return isMagnet(m) ? Guess.magnetKinds(now.marks, m) : refuse(BAD);
    }

    public int ask(int m) {
        if (!isMagnet(m)) {
            return refuse(BAD);
        }
        return guess.nextAsk(Guess.magnetKinds(now.marks, m), now.magnets.get(m, POWER));
    }

    public int lifts(int a, int b, int k) {
        if (!isClerk(a) || !isClerk(b) || a == b || k < NONE) {
            refuse(BAD);
            return BAD_LIFTS;
        }
        int first = Chains.weight(now.clerks, Chains.members(now.clerks, a));
        int second = Chains.weight(now.clerks, Chains.members(now.clerks, b));
        return k == NONE ? Lifting.howMany(first, second) : Lifting.pair(first, second, k);
    }

    public int slips(int i, int t, int j, int c) {
        if (!isClerk(i) || !isTug(t) || !isClerk(j) || !within(c, 0, 10)) {
            return refuse(BAD);
        }
        tug.spread(now.clerks, i, t);
        if (tug.feltBy(j) > 0) {
            fraction.setPower(10 - c, 10, Chains.hooksBetween(now.clerks, i, j));
        } else {
            fraction.setPower(0, 1, 1);
        }
        return 1;
    }

    public int decades(int seed, int n) {
        if (!within(seed, 0, 999999) || !within(n, 0, MOST_DAYS)) {
            return refuse(BAD);
        }
        trial.copyFrom(now.clerks);
        long x = seed;
        int all = 0;
        for (int gone = 0; gone < n; gone++) {
            x = (x * 1103515245L + 12345L) % 2147483648L;
            int at = (int) (x / 1048576L % CLERKS);
            if (trial.has(at)) {
                tug.spread(trial, at, (int) (x / 65536L % MOST_TUG) + 1);
                all += Integer.bitCount(tug.whoFeel());
            }
            Drawing.passDays(trial, now.magnets, now.day + gone, 1);
        }
        return all;
    }

    // ---- what there is

    public long part(int what) {
        if (!within(what, 0, 1)) {
            return refuse(BAD);
        }
        return what == 0 ? fraction.above : fraction.below;
    }

    public int image(int i) {
        if (!within(i, 0, 1)) {
            return refuse(BAD);
        }
        if (i == 0) {
            firstImage.copyFrom(now);
            firstKept = true;
        } else {
            secondImage.copyFrom(now);
            secondKept = true;
        }
        return 1;
    }

    public int from(int i) {
        if (!within(i, 0, 1)) {
            return refuse(BAD);
        }
        if (i == 0 ? !firstKept : !secondKept) {
            return refuse(NO);
        }
        now.copyFrom(i == 0 ? firstImage : secondImage);
        return 1;
    }

    public int status(int what) {
        if (!within(what, 0, 2)) {
            refuse(BAD);
            return BAD_STATUS;
        }
        return cell(refused, what);
    }

    public int count(int what) {
        return within(what, 0, 9) ? howMany(what) : refuse(BAD);
    }

    public long digest() {
        long h = 1553;
        for (int what = 0; what <= 9; what++) {
            h = 31 * h + howMany(what);
        }
        h = now.clerks.digestOn(h);
        h = now.magnets.digestOn(h);
        h = now.told.digestOn(h);
        h = now.notes.digestOn(h);
        h = now.marks.digestOn(h);
        h = 31 * h + fraction.above;
        return 31 * h + fraction.below;
    }

    // ---- what the calls share

    private int howMany(int what) {
        switch (what) {
            case 0:
                return now.clerks.size();
            case 1:
                return now.magnets.size();
            case 2:
                return now.day;
            case 3:
                return now.clerks.size() - Chains.howMany(now.clerks);
            case 4:
                return now.clerks.sum(RUST);
            case 5:
                return now.told.size();
            case 6:
                return now.notes.size();
            case 7:
                return now.marks.size();
            case 8:
                return now.past.size();
            default:
                return text.length();
        }
    }

    private int refuse(int reason) {
        int which = BAD - reason;
        setCell(refused, which, cell(refused, which) + 1);
        return reason;
    }

    private int keep(Rows rows, int a, int b, int c, int d, int e) {
        if (rows.isFull()) {
            return refuse(FULL);
        }
        rows.add(a, b, c, d, e);
        return rows.size();
    }

    private static int drop(Rows rows) {
        int were = rows.size();
        rows.empty();
        return were;
    }

    private boolean isClerk(int c) {
        return now.clerks.has(c);
    }

    private boolean isMagnet(int m) {
        return now.magnets.has(m);
    }

    private static boolean isKind(int kind) {
        return within(kind, 0, KINDS - 1);
    }

    private static boolean isDesk(int desk) {
        return within(desk, 0, LAST_DESK);
    }

    private static boolean isTug(int t) {
        return within(t, 1, MOST_TUG);
    }

    private static boolean within(int x, int least, int most) {
        return x >= least && x <= most;
    }

    private static boolean hasBit(int bits, int at) {
        return (bits >> at & 1) != 0;
    }

    /** A place outside the row reads as 0, so that no index is used untested. */
    private static int cell(int[] row, int at) {
        return at >= 0 && at < row.length ? row[at] : 0;
    }

    private static void setCell(int[] row, int at, int value) {
        if (at >= 0 && at < row.length) {
            row[at] = value;
        }
    }

    /** A table of numbers, made once at its full size: so many rows, all of one width. */
    static final class Rows {
        private final int most;
        private final int width;
        private final int[] cells;
        private int size;

        Rows(int most, int width) {
            this.most = within(most, 0, 100) ? most : 0;
            this.width = within(width, 0, 100) ? width : 0;
            this.cells = new int[this.most * this.width];
        }

        int size() {
            return size;
        }

        boolean isFull() {
            return size >= most;
        }

        boolean has(int r) {
            return r >= 0 && r < size;
        }

        /** NONE for a row that is not there: a CLERK that is none is ON nobody. */
        int get(int r, int column) {
            boolean inside = r >= 0 && r < size && column >= 0 && column < width;
            int at = inside ? r * width + column : NONE;
            return at >= 0 && at < cells.length ? cells[at] : NONE;
        }

        void put(int r, int column, int value) {
            boolean inside = r >= 0 && r < size && column >= 0 && column < width;
            int at = inside ? r * width + column : NONE;
            if (at >= 0 && at < cells.length) {
                cells[at] = value;
            }
        }

        /** Of the five values a narrower table takes its first ones. Answers the row's number. */
        int add(int a, int b, int c, int d, int e) {
            if (isFull()) {
                return NONE;
            }
            int r = size;
            size++;
            put(r, 0, a);
            put(r, 1, b);
            put(r, 2, c);
            put(r, 3, d);
            put(r, 4, e);
            return r;
        }

        void dropFirst() {
            for (int at = width; at < cells.length; at++) {
                setCell(cells, at - width, cell(cells, at));
            }
            dropLast();
        }

        void dropLast() {
            if (size > 0) {
                size--;
            }
        }

        void empty() {
            size = 0;
        }

        void copyFrom(Rows other) {
            size = Math.min(other.size, most);
            for (int at = 0; at < size * width; at++) {
                setCell(cells, at, cell(other.cells, at));
            }
        }

        int sum(int column) {
            int all = 0;
            for (int r = 0; r < size; r++) {
                all += get(r, column);
            }
            return all;
        }

        long digestOn(long h) {
            long on = h;
            for (int at = 0; at < size * width; at++) {
                on = 31 * on + cell(cells, at);
            }
            return on;
        }
    }

    /** All that an IMAGE keeps. */
    static final class Office {
        private final Rows clerks = new Rows(CLERKS, 5);
        private final Rows magnets = new Rows(MAGNETS, 3);
        private final Rows told = new Rows(5, 4);
        private final Rows notes = new Rows(6, 4);
        private final Rows marks = new Rows(6, 5);
        // A row is the DAY, then DESK, RUST and ON of each CLERK.
        private final Rows past = new Rows(8, 1 + 3 * CLERKS);
        private int day;

        void empty() {
            clerks.empty();
            magnets.empty();
            told.empty();
            notes.empty();
            marks.empty();
            past.empty();
            day = 0;
        }

        void copyFrom(Office other) {
            clerks.copyFrom(other.clerks);
            magnets.copyFrom(other.magnets);
            told.copyFrom(other.told);
            notes.copyFrom(other.notes);
            marks.copyFrom(other.marks);
            past.copyFrom(other.past);
            day = other.day;
        }

        int addClerk(int kind, int desk, int weight) {
            past.empty();
            return clerks.add(kind, desk, weight, 0, NONE);
        }

        int addMagnet(int kind, int desk, int power) {
            past.empty();
            return magnets.add(kind, desk, power, 0, 0);
        }

        /** Keeps what UNDO would bring back. */
        void remember() {
            if (past.isFull()) {
                past.dropFirst();
            }
            int r = past.add(day, 0, 0, 0, 0);
            for (int c = 0; c < clerks.size(); c++) {
                past.put(r, 1 + 3 * c, clerks.get(c, DESK));
                past.put(r, 2 + 3 * c, clerks.get(c, RUST));
                past.put(r, 3 + 3 * c, clerks.get(c, ON));
            }
        }

        void goBack() {
            int r = past.size() - 1;
            day = past.get(r, 0);
            for (int c = 0; c < clerks.size(); c++) {
                clerks.put(c, DESK, past.get(r, 1 + 3 * c));
                clerks.put(c, RUST, past.get(r, 2 + 3 * c));
                clerks.put(c, ON, past.get(r, 3 + 3 * c));
            }
            past.dropLast();
        }

        /** Answers how many STRINGS went on the last DAY that went by. */
        int passDays(int n) {
            int passing = Math.min(n, LAST_DAY - day);
            int went = Drawing.passDays(clerks, magnets, day, passing);
            day += passing;
            return went;
        }
    }

    /** What a KIND of CLERK lets go on, and how a KIND of MAGNET pulls. */
    static final class Kinds {
        private Kinds() {
        }

        static int letsGo(int kind, int t, int rust) {
            int plain = t - 1;
            int rusty = Math.max(0, plain - Math.min(rust, 4));
            int bright = plain + 1;
            switch (kind) {
                case 1:
                    return rusty;
                case 2:
                    return bright;
                case 3:
                    return rusty / 2;
                case 4:
                    return t >= 5 ? plain : 0;
                case 5:
                    return Math.min(MOST_TUG, 2 * bright);
                default:
                    return plain;
            }
        }

        static int pulls(int kind, int power, int far, int day) {
            int plain = Math.max(0, 2 * power - far);
            int horseshoe = far <= 2 ? 2 * plain : plain;
            int keeper = (plain + 1) / 2;
            switch (kind) {
                case 1:
                    return horseshoe;
                case 2:
                    return keeper;
                case 3:
                    return day % 2 == 0 ? keeper : 0;
                case 4:
                    return -plain;
                case 5:
                    return horseshoe >= 1 ? horseshoe + 3 : horseshoe;
                default:
                    return plain;
            }
        }
    }

    /** Who is ON whom. */
    static final class Chains {
        private Chains() {
        }

        /** The one of c's STRING that is ON nobody, if those of cut (bits) are taken as unbent. */
        static int top(Rows clerks, int c, int cut) {
            int at = c;
            for (int up = 0; up < CLERKS; up++) {
                int next = hasBit(cut, at) ? NONE : clerks.get(at, ON);
                if (next == NONE) {
                    return at;
                }
                at = next;
            }
            return at;
        }

        /** Whether j is i, or ON it, or ON one that is, and so on. */
        static boolean hangsOn(Rows clerks, int j, int i) {
            int at = j;
            for (int up = 0; up < CLERKS && at != NONE; up++) {
                if (at == i) {
                    return true;
                }
                at = clerks.get(at, ON);
            }
            return false;
        }

        static int howManyOn(Rows clerks, int j) {
            int all = 0;
            for (int c = 0; c < clerks.size(); c++) {
                all += clerks.get(c, ON) == j ? 1 : 0;
            }
            return all;
        }

        static boolean holdsTwo(Rows clerks, int j) {
            return howManyOn(clerks, j) >= 2;
        }

        static boolean canHold(Rows clerks, int j, int i) {
            return !hangsOn(clerks, j, i) && !holdsTwo(clerks, j);
        }

        /** On whom i, that is ON nobody, could be hooked (bits). */
        static int holdersFor(Rows clerks, int i) {
            int bits = 0;
            for (int j = 0; j < clerks.size(); j++) {
                bits |= canHold(clerks, j, i) ? 1 << j : 0;
            }
            return bits;
        }

        /** The CLERKS of i's STRING (bits). */
        static int members(Rows clerks, int i) {
            int top = top(clerks, i, 0);
            int bits = 0;
            for (int c = 0; c < clerks.size(); c++) {
                bits |= top(clerks, c, 0) == top ? 1 << c : 0;
            }
            return bits;
        }

        static int weight(Rows clerks, int members) {
            int all = 0;
            for (int c = 0; c < clerks.size(); c++) {
                all += hasBit(members, c) ? clerks.get(c, WEIGHT) : 0;
            }
            return all;
        }

        /** How many STRINGS there are: each has one that is ON nobody. */
        static int howMany(Rows clerks) {
            return howManyOn(clerks, NONE);
        }

        static int ends(Rows clerks) {
            int bits = 0;
            for (int c = 0; c < clerks.size(); c++) {
                int hooks = howManyOn(clerks, c) + (clerks.get(c, ON) == NONE ? 0 : 1);
                bits |= hooks <= 1 ? 1 << c : 0;
            }
            return bits;
        }

        /** How many hooks lead from i to j; NONE: they are in two STRINGS. */
        static int hooksBetween(Rows clerks, int i, int j) {
            int left = i;
            for (int up = 0; up < CLERKS && left != NONE; up++) {
                int right = j;
                for (int over = 0; over < CLERKS && right != NONE; over++) {
                    if (left == right) {
                        return up + over;
                    }
                    right = clerks.get(right, ON);
                }
                left = clerks.get(left, ON);
            }
            return NONE;
        }

        /** LONGEST in a STRING. */
        static int longest(Rows clerks, int members) {
            int most = 1;
            for (int i = 0; i < clerks.size(); i++) {
                for (int j = 0; j < i; j++) {
                    if (hasBit(members, i) && hasBit(members, j)) {
                        most = Math.max(most, hooksBetween(clerks, i, j) + 1);
                    }
                }
            }
            return most;
        }
    }

    /** How STRINGS are DRAWN, and what a DAY does to a table of CLERKS. */
    static final class Drawing {
        private Drawing() {
        }

        static int drawn(Rows clerks, Rows magnets, int members, int day) {
            int all = 0;
            for (int c = 0; c < clerks.size(); c++) {
                for (int m = 0; m < magnets.size() && hasBit(members, c); m++) {
                    int right = magnets.get(m, DESK) - clerks.get(c, DESK);
                    int pull = Kinds.pulls(magnets.get(m, KIND), magnets.get(m, POWER), Math.abs(right), day);
                    all += Integer.signum(right) * pull;
                }
            }
            return all;
        }

        /** Which way a STRING goes: 1 right, -1 left, 0 it stays. */
        static int step(Rows clerks, Rows magnets, int members, int day) {
            int drawn = drawn(clerks, magnets, members, day);
            if (Math.abs(drawn) < Chains.weight(clerks, members)) {
                return 0;
            }
            int way = Integer.signum(drawn);
            for (int c = 0; c < clerks.size(); c++) {
                if (hasBit(members, c) && !isDesk(clerks.get(c, DESK) + way)) {
                    return 0;
                }
            }
            return way;
        }

        static void move(Rows clerks, int members, int way) {
            for (int c = 0; c < clerks.size(); c++) {
                if (hasBit(members, c)) {
                    clerks.put(c, DESK, clerks.get(c, DESK) + way);
                    clerks.put(c, RUST, way != 0 ? 0 : Math.min(MOST_RUST, clerks.get(c, RUST) + 1));
                }
            }
        }

        /**
         * Answers how many STRINGS went on the last of n DAYS. One STRING's place never sways
         * another one, so that they may go in turn.
         */
        static int passDays(Rows clerks, Rows magnets, int today, int n) {
            int went = 0;
            for (int gone = 0; gone < n; gone++) {
                went = 0;
                for (int c = 0; c < clerks.size(); c++) {
                    if (clerks.get(c, ON) == NONE) {
                        int members = Chains.members(clerks, c);
                        int way = step(clerks, magnets, members, today + gone);
                        move(clerks, members, way);
                        went += way != 0 ? 1 : 0;
                    }
                }
            }
            return went;
        }
    }

    /** How a TUG spreads through a STRING. */
    static final class Tug {
        private final int[] feels = new int[CLERKS];

        /**
         * Each round takes the TUG over the hooks that it has come to, and a STRING has fewer hooks
         * than CLERKS. Hooks make no rings, so that one who FEELS it has it from one side alone.
         */
        void spread(Rows clerks, int i, int t) {
            for (int c = 0; c < CLERKS; c++) {
                setCell(feels, c, c == i ? t : 0);
            }
            boolean spreads = true;
            for (int round = 1; round < clerks.size() && spreads; round++) {
                spreads = false;
                for (int c = 0; c < clerks.size(); c++) {
                    int holder = clerks.get(c, ON);
                    if (holder != NONE) {
                        spreads |= pass(clerks, c, holder) | pass(clerks, holder, c);
                    }
                }
            }
        }

        /** Answers whether the taker came to FEEL it. */
        private boolean pass(Rows clerks, int giver, int taker) {
            int t = cell(feels, giver);
            if (t == 0 || cell(feels, taker) > 0) {
                return false;
            }
            int goes = Kinds.letsGo(clerks.get(giver, KIND), t, clerks.get(giver, RUST));
            setCell(feels, taker, goes);
            return goes > 0;
        }

        int feltBy(int j) {
            return cell(feels, j);
        }

        int whoFeel() {
            int bits = 0;
            for (int c = 0; c < CLERKS; c++) {
                bits |= cell(feels, c) > 0 ? 1 << c : 0;
            }
            return bits;
        }

        /** Whether all TOLD are so with these CLERKS. */
        boolean agrees(Rows clerks, Rows told) {
            for (int r = 0; r < told.size(); r++) {
                spread(clerks, told.get(r, 0), told.get(r, 1));
                if (feltBy(told.get(r, 2)) != told.get(r, 3)) {
                    return false;
                }
            }
            return true;
        }
    }

    /** Which KINDS fit what was seen, and what parts them best. */
    static final class Guess {
        private final int[] values = new int[KINDS];

        static int clerkKinds(Rows notes, int i) {
            int bits = 0;
            for (int kind = 0; kind < KINDS; kind++) {
                boolean fits = true;
                for (int r = 0; r < notes.size(); r++) {
                    int goes = Kinds.letsGo(kind, notes.get(r, 1), notes.get(r, 2));
                    fits &= notes.get(r, 0) != i || goes == notes.get(r, 3);
                }
                bits |= fits ? 1 << kind : 0;
            }
            return bits;
        }

        static int magnetKinds(Rows marks, int m) {
            int bits = 0;
            for (int kind = 0; kind < KINDS; kind++) {
                boolean fits = true;
                for (int r = 0; r < marks.size(); r++) {
                    int pull = Kinds.pulls(kind, marks.get(r, 1), marks.get(r, 2), marks.get(r, 3));
                    fits &= marks.get(r, 0) != m || pull == marks.get(r, 4);
                }
                bits |= fits ? 1 << kind : 0;
            }
            return bits;
        }

        int nextLook(int kinds) {
            int best = NONE;
            int fewest = kinds == 0 ? 0 : KINDS + 1;
            for (int t = 1; t <= MOST_TUG; t++) {
                for (int u = 0; u <= 9; u++) {
                    for (int kind = 0; kind < KINDS; kind++) {
                        setCell(values, kind, Kinds.letsGo(kind, t, u));
                    }
                    int alike = mostAlike(kinds);
                    if (alike < fewest) {
                        fewest = alike;
                        best = 10 * t + u;
                    }
                }
            }
            return best;
        }

        int nextAsk(int kinds, int power) {
            int best = NONE;
            int fewest = kinds == 0 ? 0 : KINDS + 1;
            for (int d = 0; d <= 1; d++) {
                for (int f = 0; f <= LAST_DESK; f++) {
                    for (int kind = 0; kind < KINDS; kind++) {
                        setCell(values, kind, Kinds.pulls(kind, power, f, d));
                    }
                    int alike = mostAlike(kinds);
                    if (alike < fewest) {
                        fewest = alike;
                        best = 100 * d + f;
                    }
                }
            }
            return best;
        }

        private int mostAlike(int kinds) {
            int most = 0;
            for (int one = 0; one < KINDS; one++) {
                int alike = 0;
                for (int other = 0; other < KINDS && hasBit(kinds, one); other++) {
                    boolean same = hasBit(kinds, other) && cell(values, one) == cell(values, other);
                    alike += same ? 1 : 0;
                }
                most = Math.max(most, alike);
            }
            return most;
        }
    }

    /** LUNCH and FREE: the fewest of all choices among at most seven. */
    static final class Tables {
        private final int[] sizes = new int[CLERKS];
        private final int[] weights = new int[CLERKS];
        private final int[] sitting = new int[1 << CLERKS];
        private final int[] needed = new int[1 << CLERKS];

        int fewest(Rows clerks, int n) {
            int parties = countParties(clerks);
            int all = (1 << parties) - 1;
            for (int p = 0; p < parties; p++) {
                if (cell(sizes, p) > n) {
                    return NONE;
                }
            }
            for (int some = 1; some <= all; some++) {
                int last = 31 - Integer.numberOfLeadingZeros(some);
                setCell(sitting, some, cell(sitting, some & ~(1 << last)) + cell(sizes, last));
                setCell(needed, some, tablesFor(some, n));
            }
            return cell(needed, all);
        }

        /** Puts the sizes of all STRINGS in a row; answers how many there are. */
        private int countParties(Rows clerks) {
            int parties = 0;
            for (int c = 0; c < clerks.size(); c++) {
                if (clerks.get(c, ON) == NONE) {
                    setCell(sizes, parties, Integer.bitCount(Chains.members(clerks, c)));
                    parties++;
                }
            }
            return parties;
        }

        /** Tries every company at one table; what the others need is known already. */
        private int tablesFor(int some, int n) {
            int best = CLERKS;
            for (int table = 1; table <= some; table++) {
                if ((table & some) == table && cell(sitting, table) <= n) {
                    best = Math.min(best, 1 + cell(needed, some & ~table));
                }
            }
            return best;
        }

        int fewestUnbent(Rows clerks, int w) {
            int best = NONE;
            int fewest = CLERKS + 1;
            int hooked = 0;
            for (int c = 0; c < clerks.size(); c++) {
                hooked |= clerks.get(c, ON) != NONE ? 1 << c : 0;
            }
            for (int cut = 0; cut <= hooked; cut++) {
                boolean fewer = (cut & hooked) == cut && Integer.bitCount(cut) < fewest;
                if (fewer && isLight(clerks, cut, w)) {
                    fewest = Integer.bitCount(cut);
                    best = cut;
                }
            }
            return best;
        }

        private boolean isLight(Rows clerks, int cut, int w) {
            for (int c = 0; c < CLERKS; c++) {
                setCell(weights, c, 0);
            }
            for (int c = 0; c < clerks.size(); c++) {
                int top = Chains.top(clerks, c, cut);
                setCell(weights, top, cell(weights, top) + clerks.get(c, WEIGHT));
                if (cell(weights, top) > w) {
                    return false;
                }
            }
            return true;
        }
    }

    /** LIFTS: the pairs of hands at which two STRINGS of given weights rest. */
    static final class Lifting {
        private static final int MOST_HANDS = 9;

        private Lifting() {
        }

        static int howMany(int first, int second) {
            int all = 0;
            for (int i = 0; i <= MOST_HANDS; i++) {
                for (int j = 0; j <= MOST_HANDS; j++) {
                    all += rests(i, j, first, second) ? 1 : 0;
                }
            }
            return all;
        }

        static int pair(int first, int second, int k) {
            int ahead = 0;
            for (int i = 0; i <= MOST_HANDS; i++) {
                for (int j = 0; j <= MOST_HANDS; j++) {
                    if (rests(i, j, first, second)) {
                        if (ahead == k) {
                            return 10 * i + j;
                        }
                        ahead++;
                    }
                }
            }
            return FEWER_LIFTS;
        }

        private static boolean rests(int i, int j, int first, int second) {
            for (int other = 0; other <= MOST_HANDS; other++) {
                boolean firstGains = firstGets(other, j, first) > firstGets(i, j, first);
                boolean secondGains = secondGets(i, other, second) > secondGets(i, j, second);
                if (firstGains || secondGains) {
                    return false;
                }
            }
            return true;
        }

        private static int firstGets(int i, int j, int weight) {
            return (i >= j && i >= thirdOf(weight) ? weight : 0) - i;
        }

        private static int secondGets(int i, int j, int weight) {
            return (j > i && j >= thirdOf(weight) ? weight : 0) - j;
        }

        private static int thirdOf(int weight) {
            return (weight + 2) / 3;
        }
    }

    /** THE FRACTION. */
    static final class Fraction {
        private long above = 0;
        private long below = 1;

        /** Becomes a / b (a 0 .. b, b 1 .. 10), so many times by itself: 6 times at most. */
        void setPower(int a, int b, int times) {
            int shared = greatestShared(a, b);
            above = 1;
            below = 1;
            for (int time = 0; time < times && shared > 0; time++) {
                above = above * (a / shared);
                below = above == 0 ? 1 : below * (b / shared);
            }
        }

        private static int greatestShared(int a, int b) {
            for (int by = 10; by > 1; by--) {
                if (a % by == 0 && b % by == 0) {
                    return by;
                }
            }
            return 1;
        }
    }

    /** THE TEXT, and how an OFFICE is read from it. */
    static final class Text {
        private static final int END = 0, WRONG = 1, NUMBER = 2, STOP = 3;
        private static final int OFFICE = 4, CLERK = 5, MAGNET = 6, HOOK = 7, DAYS = 8;
        private static final int FAULTS = -10;

        private final int[] bytes = new int[MOST_TEXT];
        private int length;
        // The TOKEN read last: where it begins, what it is, and the value of the last NUMBER.
        private int start;
        private int token;
        private int value;
        private int kind;
        private int desk;
        // Where the next one is looked for.
        private int place;

        int length() {
            return length;
        }

        boolean isFull() {
            return length >= MOST_TEXT;
        }

        void empty() {
            length = 0;
        }

        int append(int c) {
            setCell(bytes, length, c);
            length++;
            return length;
        }

        /** Answers how many ITEMS, or -10 less the FAULT: where the TOKEN read last begins. */
        int readInto(Office draft) {
            draft.empty();
            place = 0;
            next();
            boolean well = token == OFFICE && stops();
            for (int items = 1; well && items <= MOST_TEXT; items++) {
                next();
                switch (token) {
                    case END:
                        return items;
                    case CLERK:
                        well = !draft.clerks.isFull() && readThree() && stops();
                        if (well) {
                            draft.addClerk(kind, desk, value);
                        }
                        break;
                    case MAGNET:
                        well = !draft.magnets.isFull() && readThree() && stops();
                        if (well) {
                            draft.addMagnet(kind, desk, value);
                        }
                        break;
                    case HOOK:
                        well = readHook(draft.clerks) && stops();
                        break;
                    case DAYS:
                        well = readNumber(1, 99) && stops();
                        if (well) {
                            draft.passDays(value);
                        }
                        break;
                    default:
                        well = false;
                }
            }
            return FAULTS - start;
        }

        /** Reads KIND, DESK and, as the value, WEIGHT or POWER. */
        private boolean readThree() {
            if (!readNumber(0, KINDS - 1)) {
                return false;
            }
            kind = value;
            if (!readNumber(0, LAST_DESK)) {
                return false;
            }
            desk = value;
            return readNumber(1, MOST_WEIGHT);
        }

        private boolean readHook(Rows clerks) {
            int last = clerks.size() - 1;
            if (!readNumber(0, last) || clerks.get(value, ON) != NONE) {
                return false;
            }
            int i = value;
            if (!readNumber(0, last) || !Chains.canHold(clerks, value, i)) {
                return false;
            }
            clerks.put(i, ON, value);
            return true;
        }

        private boolean readNumber(int least, int most) {
            next();
            return token == NUMBER && within(value, least, most);
        }

        private boolean stops() {
            next();
            return token == STOP;
        }

        private void next() {
            place = behind(' ', ' ');
            start = place;
            int first = cell(bytes, start);
            if (start >= length) {
                token = END;
            } else if (within(first, 'a', 'z')) {
                place = behind('a', 'z');
                token = isWord("office") ? OFFICE : isWord("clerk") ? CLERK : isWord("magnet") ? MAGNET
                        : isWord("hook") ? HOOK : isWord("days") ? DAYS : WRONG;
            } else if (within(first, '0', '9')) {
                place = behind('0', '9');
                token = place - start <= 2 ? NUMBER : WRONG;
                value = numberAt();
            } else {
                place = start + 1;
                token = first == ';' ? STOP : WRONG;
            }
        }

        /** The first place from here on whose byte is not one of these. */
        private int behind(int least, int most) {
            int at = place;
            while (at < length && within(cell(bytes, at), least, most)) {
                at++;
            }
            return at;
        }

        private int numberAt() {
            int number = 0;
            for (int at = start; at < place && at < start + 2; at++) {
                number = 10 * number + cell(bytes, at) - '0';
            }
            return number;
        }

        private boolean isWord(String word) {
            boolean same = place - start == word.length();
            for (int k = 0; same && k < word.length(); k++) {
                same = cell(bytes, start + k) == word.charAt(k);
            }
            return same;
        }
    }
}

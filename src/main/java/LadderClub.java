/** A ladder anyone may climb; ../shared/DOC.md says what each call answers. */
public final class LadderClub {
    public static final int NONE = -1, BAD = -2, STATE = -3, FULL = -4;
    public static final long NO = Long.MIN_VALUE;

    private static final int NOBODY = -5, OTHER_KIND = -6, FAULTY = -10;
    private static final int MOST_NAMES = 6, MOST_CLUBS = 5, MOST_ROUNDS = 15, MOST_BYTES = 120;
    private static final int MOST_CLAUSES = 8, MOST_OPEN = 5, MOST_TRACED = 20, MOST_DAYS_ON = 6;
    private static final int LAST_DAY = 999, LAST_SEED = 999, LONGEST_STAY = 99, MOST_BEATEN = 99;
    private static final int SURE = 100, EVEN = 50, WEEK = 7;

    private final Ladder now = new Ladder();
    private final Ladder image = new Ladder();
    private boolean imaged = false;
    /** At 0 how many bodies ran, behind it the first of them. */
    private final int[] bodies = new int[1 + MOST_TRACED];
    private final ClubReader reader = new ClubReader();
    private final Days days = new Days(now);
    /** Rows that are filled anew by each call that uses them. */
    private final int[] truth = new int[MOST_NAMES];
    private final int[] row = new int[MOST_NAMES];
    private final int[] trial = new int[MOST_NAMES];
    private final int[] fewest = new int[MOST_NAMES];

    public LadderClub() {
    }

    // ---- names, the board

    public int name() {
        if (now.names >= MOST_NAMES) {
            return FULL;
        }
        now.board[now.names] = now.names;
        now.names++;
        return now.names - 1;
    }

    public int chance(int a, int b, int n) {
        if (!isName(a) || !isName(b)) {
            return NONE;
        }
        if (a == b || n < 0 || n > SURE) {
            return BAD;
        }
        int was = now.chances[a][b];
        now.chances[a][b] = n;
        now.chances[b][a] = SURE - n;
        return was;
    }

    public int beats(int a, int b) {
        if (!isName(a) || !isName(b)) {
            return NONE;
        }
        return a == b ? BAD : now.chances[a][b];
    }

    public int board(int rung, int what) {
        if (!isRung(rung) || !isEither(what)) {
            return NONE;
        }
        if (what == 0) {
            return now.board[rung];
        }
        now.findTruth(truth);
        return truth[rung];
    }

    public int hang(int name, int rung) {
        if (!isName(name) || !isRung(rung)) {
            return NONE;
        }
        int was = now.rungOf(name);
        move(now.board, was, rung);
        return was;
    }

    public int far() {
        now.findTruth(truth);
        int pairs = 0;
        for (int high = 0; high < now.names; high++) {
            for (int low = high + 1; low < now.names; low++) {
                if (now.rungOf(truth[high]) > now.rungOf(truth[low])) {
                    pairs++;
                }
            }
        }
        return pairs;
    }

    // ---- clubs, askers

    public int feed(long w, int n) {
        if (n < 1 || n > 8) {
            return BAD;
        }
        if (now.taped + n > MOST_BYTES) {
            return FULL;
        }
        for (int i = n - 1; i >= 0; i--) {
            now.tape[now.taped] = (byte) (w >> 8 * i);
            now.taped++;
        }
        return now.taped;
    }

    public int club() {
        if (now.clubCount >= MOST_CLUBS) {
            return FULL;
        }
        Club read = reader.read(now.tape, now.taped);
        now.taped = 0;
        if (read == null) {
            return FAULTY - reader.place();
        }
        now.clubs[now.clubCount] = read;
        now.clubCount++;
        return now.clubCount - 1;
    }

    public int may(int club, int name, int day) {
        Club by = clubAt(club);
        if (by == null || !isName(name)) {
            return NONE;
        }
        return isDay(day) ? now.mayBits(by, now.board, now.rungOf(name), day) : BAD;
    }

    public int asker(int name, int kind, int v) {
        if (!isName(name) || !isKind(kind)) {
            return NONE;
        }
        if (v < 0 || v > 100) {
            return BAD;
        }
        int was = now.askers[name].kind();
        now.askers[name] = newAsker(kind, name, v);
        return was;
    }

    public int asks(int club, int name, int day) {
        Club by = clubAt(club);
        if (by == null || !isName(name)) {
            return NONE;
        }
        return isDay(day) ? whomToday(by, name, day) : BAD;
    }

    public int match(int club, int a, int b, boolean wins) {
        Club by = clubAt(club);
        if (by == null || !isName(a) || !isName(b)) {
            return NONE;
        }
        if (a == b) {
            return BAD;
        }
        int from = now.rungOf(a);
        if (!holds(now.mayBits(by, now.board, from, now.today), b)) {
            return STATE;
        }
        if (wins) {
            by.climb(now.board, from, now.rungOf(b));
        }
        return now.rungOf(a);
    }

    public int pass(int n) {
        if (n < 1 || n > LONGEST_STAY || now.today + n > LAST_DAY) {
            return BAD;
        }
        now.today += n;
        return now.today;
    }

    // ---- behind days, n 0 .. 6

    public long share(int club, int n, int name, int rung, int part) {
        Club by = clubAt(club);
        if (by == null || !isDaysOn(n) || !isName(name) || !isRung(rung) || !isEither(part)) {
            return NO;
        }
        goBehind(by, n, now.board, 0);
        return partOf(days.onRung(name, rung), days.whole(), part);
    }

    public long truly(int club, int n, int part) {
        Club by = clubAt(club);
        if (by == null || !isDaysOn(n) || !isEither(part) || now.names == 0) {
            return NO;
        }
        now.findTruth(truth);
        goBehind(by, n, now.board, 0);
        return partOf(days.being(truth), days.whole(), part);
    }

    public int likely(int club, int n, int rung) {
        Club by = clubAt(club);
        if (by == null || !isRung(rung)) {
            return NONE;
        }
        if (!isDaysOn(n)) {
            return BAD;
        }
        goBehind(by, n, now.board, 0);
        days.findLikeliest(row);
        return row[rung];
    }

    public long mean(int club, int n, int name, int part) {
        Club by = clubAt(club);
        if (by == null || !isDaysOn(n) || !isName(name) || !isEither(part)) {
            return NO;
        }
        goBehind(by, n, now.board, 0);
        return partOf(days.sumOfRungs(name), days.whole(), part);
    }

    public int stuck(int club, int what) {
        Club by = clubAt(club);
        if (by == null || !isEither(what)) {
            return NONE;
        }
        return what == 0 ? stuckBits(by) : hangingBits(by);
    }

    public int ought(int club, int n, int name) {
        Club by = clubAt(club);
        if (by == null || !isName(name)) {
            return NONE;
        }
        if (n < 1 || n > MOST_DAYS_ON) {
            return BAD;
        }
        int rung = now.turn(now.today);
        if (now.board[rung] != name) {
            return STATE;
        }
        int may = now.mayBits(by, now.board, rung, now.today);
        int whom = NOBODY;
        long least = rungsHavingAsked(by, n, name, NOBODY);
        for (int b = 0; b < now.names; b++) {
            if (holds(may, b)) {
                long sum = rungsHavingAsked(by, n, name, b);
                if (sum < least) {
                    least = sum;
                    whom = b;
                }
            }
        }
        return whom;
    }

    public int row(int name) {
        if (name == -2) {
            now.rowed = 0;
            return 0;
        }
        if (name < -1 || name >= MOST_NAMES) {
            return BAD;
        }
        if (now.rowed >= MOST_NAMES) {
            return FULL;
        }
        now.row[now.rowed] = name;
        now.rowed++;
        return now.rowed;
    }

    public int judged(int club, int day) {
        Club by = clubAt(club);
        if (by == null) {
            return NONE;
        }
        if (!isDay(day)) {
            return BAD;
        }
        if (now.rowed != now.names) {
            return STATE;
        }
        for (int a = 0; a < now.names; a++) {
            int told = now.row[a] == -1 ? NOBODY : now.row[a];
            if (whomToday(by, a, day) != told) {
                return a;
            }
        }
        return NOBODY;
    }

    public long refuse(int club, int n, int name, int part) {
        Club by = clubAt(club);
        if (by == null || !isDaysOn(n) || !isName(name) || !isEither(part)) {
            return NO;
        }
        goBehind(by, n, now.board, 0);
        long open = days.sumOfRungs(name);
        goBehind(by, n, now.board, 1 << name);
        return partOf(open - days.sumOfRungs(name), days.whole(), part);
    }

    public int begin(int club, int n, int name) {
        Club by = clubAt(club);
        if (by == null || !isName(name)) {
            return NONE;
        }
        if (!isDaysOn(n)) {
            return BAD;
        }
        now.findTruth(truth);
        int from = now.rungOf(name);
        int best = 0;
        long greatest = -1;
        for (int rung = 0; rung < now.names; rung++) {
            System.arraycopy(now.board, 0, trial, 0, now.names);
            move(trial, from, rung);
            goBehind(by, n, trial, 0);
            if (days.being(truth) > greatest) {
                greatest = days.being(truth);
                best = rung;
            }
        }
        return best;
    }

    public int best(int n) {
        if (!isDaysOn(n)) {
            return BAD;
        }
        if (now.names == 0) {
            return NOBODY;
        }
        now.findTruth(truth);
        int best = NOBODY;
        long greatest = -1;
        for (int club = 0; club < now.clubCount; club++) {
            goBehind(now.clubs[club], n, now.board, 0);
            if (days.being(truth) > greatest) {
                greatest = days.being(truth);
                best = club;
            }
        }
        return best;
    }

    // ---- rounds, the past, runs

    public int round(int i, int j) {
        if (i == -1) {
            now.rounds = 0;
            return 0;
        }
        if (i < 0 || j >= MOST_NAMES || i >= j) {
            return BAD;
        }
        if (now.rounds >= MOST_ROUNDS) {
            return FULL;
        }
        now.uppers[now.rounds] = i;
        now.lowers[now.rounds] = j;
        now.rounds++;
        return now.rounds;
    }

    public int sorts(int what) {
        if (!isEither(what)) {
            return NONE;
        }
        if (!now.hasRungsOfRounds()) {
            return STATE;
        }
        int all = ordersOf(now.names);
        if (what == 1) {
            return all;
        }
        firstOrder(row);
        int sorted = 0;
        for (int k = 0; k < all; k++) {
            System.arraycopy(row, 0, trial, 0, MOST_NAMES);
            now.playRounds(trial);
            if (now.isSettled(trial)) {
                sorted++;
            }
            nextOrder(row, now.names);
        }
        return sorted;
    }

    public int past(int a, int b, int n) {
        if (!isName(a) || !isName(b)) {
            return NONE;
        }
        if (a == b || n < 0 || n > MOST_BEATEN) {
            return BAD;
        }
        int was = now.past[a][b];
        now.past[a][b] = n;
        return was;
    }

    public int really(int what) {
        switch (what) {
            case 0:
                return now.threes();
            case 1:
                return now.neverAsked();
            case 2:
                return findFewest();
            default:
                return NONE;
        }
    }

    public int order(int i) {
        if (!isRung(i)) {
            return NONE;
        }
        findFewest();
        return fewest[i];
    }

    public int run(int club, int n, int seed) {
        Club by = clubAt(club);
        if (by == null) {
            return NONE;
        }
        if (n < 1 || n > LONGEST_STAY || seed < 0 || seed > LAST_SEED || now.today + n > LAST_DAY) {
            return BAD;
        }
        for (int i = 0; i < n; i++) {
            runToday(by, seed);
            now.today++;
        }
        return far();
    }

    // ---- acts, the image

    public int act(int name, int act, int x) {
        bodies[0] = 0;
        if (!isName(name)) {
            return 0;
        }
        Asker asker = now.askers[name];
        switch (act) {
            case 0:
                return asker.asking(x, bodies);
            case 1:
                return asker.taking(x, bodies);
            case 2:
                return asker.waiting(x, bodies);
            default:
                return 0;
        }
    }

    public int trace(int i) {
        return i >= 0 && i < bodies[0] && i < MOST_TRACED ? bodies[1 + i] : NONE;
    }

    public int as(int name, int k) {
        if (!isName(name) || !isKind(k)) {
            return NONE;
        }
        return isOfKind(now.askers[name], k) ? now.askers[name].v : OTHER_KIND;
    }

    public int image() {
        image.copy(now);
        imaged = true;
        return now.today;
    }

    public int undo() {
        if (!imaged) {
            return STATE;
        }
        now.copy(image);
        return now.today;
    }

    public int count(int what) {
        switch (what) {
            case 0:
                return now.names;
            case 1:
                return now.clubCount;
            case 2:
                return now.today;
            case 3:
                return now.rounds;
            case 4:
                return now.rowed;
            case 5:
                return now.taped;
            case 6:
                return bodies[0];
            default:
                return NONE;
        }
    }

    // ---- what is there

    private boolean isName(int name) {
        return name >= 0 && name < now.names;
    }

    private boolean isRung(int rung) {
        return rung >= 0 && rung < now.names;
    }

    private static boolean isKind(int kind) {
        return kind >= 0 && kind <= Never.KIND;
    }

    private static boolean isEither(int what) {
        return what == 0 || what == 1;
    }

    private static boolean isDay(int day) {
        return day >= 0 && day <= LAST_DAY;
    }

    private static boolean isDaysOn(int n) {
        return n >= 0 && n <= MOST_DAYS_ON;
    }

    private static boolean holds(int bits, int name) {
        return (bits >> name & 1) == 1;
    }

    /** The club of that number, or null. */
    private Club clubAt(int club) {
        return club >= 0 && club < now.clubCount ? now.clubs[club] : null;
    }

    // ---- askings by the board as it is

    private int whomToday(Club by, int name, int day) {
        return now.whom(by, now.board, now.rungOf(name), day, 0);
    }

    /** Whom a name asks on at least one day of a week, as bits. */
    private int askedInWeek(Club by, int name) {
        int rung = now.rungOf(name);
        int bits = 0;
        for (int day = 0; day < WEEK; day++) {
            int whom = now.whom(by, now.board, rung, day, 0);
            if (whom != NOBODY) {
                bits |= 1 << whom;
            }
        }
        return bits;
    }

    private int stuckBits(Club by) {
        int bits = 0;
        for (int low = 1; low < now.names; low++) {
            int a = now.board[low];
            int asked = askedInWeek(by, a);
            for (int high = 0; high < low; high++) {
                int b = now.board[high];
                if (now.isStronger(a, b) && !holds(asked, b)) {
                    bits |= 1 << a;
                }
            }
        }
        return bits;
    }

    private int hangingBits(Club by) {
        int asked = 0;
        for (int a = 0; a < now.names; a++) {
            asked |= askedInWeek(by, a);
        }
        int bits = 0;
        for (int low = 1; low < now.names; low++) {
            for (int high = 0; high < low; high++) {
                int b = now.board[high];
                if (now.isStronger(now.board[low], b) && !holds(asked, b)) {
                    bits |= 1 << b;
                }
            }
        }
        return bits;
    }

    private void runToday(Club by, int seed) {
        if (now.names == 0) {
            return;
        }
        int from = now.turn(now.today);
        int a = now.board[from];
        int b = now.whom(by, now.board, from, now.today, 0);
        if (b != NOBODY && (seed * 31 + now.today * 17) * 7 % SURE < now.chances[a][b]) {
            by.climb(now.board, from, now.rungOf(b));
        }
    }

    // ---- boards behind days

    /** Leaves in the days all boards n days behind one, while nobody may ask those of the bits. */
    private void goBehind(Club by, int n, int[] board, int refusing) {
        days.startFrom(board);
        for (int i = 0; i < n; i++) {
            days.goOn(by, now.today + i, refusing);
        }
    }

    private long rungsHavingAsked(Club by, int n, int name, int whom) {
        days.startFrom(now.board);
        days.goOnAsking(by, now.today, whom);
        for (int i = 1; i < n; i++) {
            days.goOn(by, now.today + i, 0);
        }
        return days.sumOfRungs(name);
    }

    private static long partOf(long above, long below, int part) {
        long common = commonDivisor(Math.abs(above), below);
        if (common == 0) {
            return NO;
        }
        return (part == 0 ? above : below) / common;
    }

    private static long commonDivisor(long a, long b) {
        for (int i = 0; i < 200 && b != 0; i++) {
            long rest = a % b;
            a = b;
            b = rest;
        }
        return a;
    }

    // ---- orders

    /** Who stands on a rung comes to another one; those between move by one. */
    private static void move(int[] board, int from, int to) {
        int name = board[from];
        for (int rung = from; rung > to; rung--) {
            board[rung] = board[rung - 1];
        }
        for (int rung = from; rung < to; rung++) {
            board[rung] = board[rung + 1];
        }
        board[to] = name;
    }

    private static void swap(int[] order, int i, int j) {
        int name = order[i];
        order[i] = order[j];
        order[j] = name;
    }

    private static int ordersOf(int names) {
        int all = 1;
        for (int i = 2; i <= names; i++) {
            all *= i;
        }
        return all;
    }

    private static void firstOrder(int[] order) {
        for (int i = 0; i < order.length; i++) {
            order[i] = i;
        }
    }

    /** Makes an order the next one as a row; the last one stays as it is. */
    private static void nextOrder(int[] order, int names) {
        int i = names - 2;
        while (i >= 0 && order[i] > order[i + 1]) {
            i--;
        }
        if (i < 0) {
            return;
        }
        int j = names - 1;
        while (j > i && order[j] < order[i]) {
            j--;
        }
        swap(order, i, j);
        for (int low = i + 1, high = names - 1; low < high; low++, high--) {
            swap(order, low, high);
        }
    }

    /** Fills the order of the past; the matches in it that were won by one who stands lower. */
    private int findFewest() {
        firstOrder(row);
        int least = -1;
        int all = ordersOf(now.names);
        for (int k = 0; k < all; k++) {
            int won = now.wonFromBelow(row);
            if (least < 0 || won < least) {
                least = won;
                System.arraycopy(row, 0, fewest, 0, MOST_NAMES);
            }
            nextOrder(row, now.names);
        }
        return least;
    }

    // ---- kinds

    private static Asker newAsker(int kind, int number, int v) {
        switch (kind) {
            case Near.KIND:
                return new Near(number, v);
            case Far.KIND:
                return new Far(number, v);
            case Safe.KIND:
                return new Safe(number, v);
            case Best.KIND:
                return new Best(number, v);
            case Told.KIND:
                return new Told(number, v);
            case Never.KIND:
                return new Never(number, v);
            default:
                return new Asker(number, v);
        }
    }

    private static boolean isOfKind(Asker asker, int kind) {
        switch (kind) {
            case Near.KIND:
                return asker instanceof Near;
            case Far.KIND:
                return asker instanceof Far;
            case Safe.KIND:
                return asker instanceof Safe;
            case Best.KIND:
                return asker instanceof Best;
            case Told.KIND:
                return asker instanceof Told;
            case Never.KIND:
                return asker instanceof Never;
            default:
                return true;
        }
    }

    /** All that an image keeps. */
    private static final class Ladder {
        private int names = 0;
        private final int[] board = new int[MOST_NAMES];
        private final int[][] chances = new int[MOST_NAMES][MOST_NAMES];
        private int today = 0;
        private final Asker[] askers = new Asker[MOST_NAMES];
        private final byte[] tape = new byte[MOST_BYTES];
        private int taped = 0;
        private final Club[] clubs = new Club[MOST_CLUBS];
        private int clubCount = 0;
        private final int[] row = new int[MOST_NAMES];
        private int rowed = 0;
        private final int[] uppers = new int[MOST_ROUNDS];
        private final int[] lowers = new int[MOST_ROUNDS];
        private int rounds = 0;
        private final int[][] past = new int[MOST_NAMES][MOST_NAMES];
        /** What the tests of a club look at; filled anew by each use. */
        private final int[] facts = new int[6];

        Ladder() {
            for (int a = 0; a < MOST_NAMES; a++) {
                askers[a] = new Asker(a, 0);
                for (int b = 0; b < MOST_NAMES; b++) {
                    chances[a][b] = EVEN;
                }
            }
        }

        void copy(Ladder other) {
            names = other.names;
            today = other.today;
            taped = other.taped;
            clubCount = other.clubCount;
            rowed = other.rowed;
            rounds = other.rounds;
            System.arraycopy(other.board, 0, board, 0, MOST_NAMES);
            System.arraycopy(other.tape, 0, tape, 0, MOST_BYTES);
            System.arraycopy(other.row, 0, row, 0, MOST_NAMES);
            System.arraycopy(other.uppers, 0, uppers, 0, MOST_ROUNDS);
            System.arraycopy(other.lowers, 0, lowers, 0, MOST_ROUNDS);
            for (int i = 0; i < MOST_CLUBS; i++) {
                clubs[i] = other.clubs[i];
            }
            for (int a = 0; a < MOST_NAMES; a++) {
                askers[a] = other.askers[a];
                System.arraycopy(other.chances[a], 0, chances[a], 0, MOST_NAMES);
                System.arraycopy(other.past[a], 0, past[a], 0, MOST_NAMES);
            }
        }

        boolean isStronger(int a, int b) {
            return chances[a][b] > EVEN;
        }

        int rungOf(int name) {
            int rung = 0;
            for (int r = 0; r < names; r++) {
                if (board[r] == name) {
                    rung = r;
                }
            }
            return rung;
        }

        void findTruth(int[] truth) {
            for (int a = 0; a < names; a++) {
                int ahead = 0;
                for (int b = 0; b < names; b++) {
                    int more = weaker(b) - weaker(a);
                    if (more > 0 || more == 0 && b < a) {
                        ahead++;
                    }
                }
                truth[ahead] = a;
            }
        }

        /** How many a name is stronger than. */
        private int weaker(int a) {
            int many = 0;
            for (int b = 0; b < names; b++) {
                if (a != b && isStronger(a, b)) {
                    many++;
                }
            }
            return many;
        }

        /** The rung whose turn it is. */
        int turn(int day) {
            return names == 0 ? 0 : names - 1 - day % names;
        }

        /** Whom the one on a rung of a board may ask, as bits. */
        int mayBits(Club by, int[] board, int rung, int day) {
            int a = board[rung];
            int bits = 0;
            facts[0] = a;
            facts[2] = rung;
            facts[5] = day % WEEK;
            for (int up = 1; up <= by.up && up <= rung; up++) {
                int b = board[rung - up];
                facts[1] = b;
                facts[3] = up;
                facts[4] = chances[a][b];
                if (by.lets(facts)) {
                    bits |= 1 << b;
                }
            }
            return bits;
        }

        /** Whom the one on a rung of a board asks, while nobody may ask those of the bits. */
        int whom(Club by, int[] board, int rung, int day, int refusing) {
            int may = mayBits(by, board, rung, day) & ~refusing;
            return may == 0 ? NOBODY : askers[board[rung]].pick(chances, by, board, rung, may);
        }

        boolean hasRungsOfRounds() {
            for (int i = 0; i < rounds; i++) {
                if (lowers[i] >= names) {
                    return false;
                }
            }
            return true;
        }

        void playRounds(int[] order) {
            for (int i = 0; i < rounds; i++) {
                if (isStronger(order[lowers[i]], order[uppers[i]])) {
                    swap(order, uppers[i], lowers[i]);
                }
            }
        }

        boolean isSettled(int[] order) {
            for (int rung = 1; rung < names; rung++) {
                if (isStronger(order[rung], order[rung - 1])) {
                    return false;
                }
            }
            return true;
        }

        int threes() {
            int many = 0;
            for (int a = 0; a < names; a++) {
                for (int b = a + 1; b < names; b++) {
                    for (int c = a + 1; c < names; c++) {
                        if (wonMore(a, b) && wonMore(b, c) && wonMore(c, a)) {
                            many++;
                        }
                    }
                }
            }
            return many;
        }

        private boolean wonMore(int a, int b) {
            return past[a][b] > past[b][a];
        }

        int neverAsked() {
            int pairs = 0;
            for (int a = 0; a < names; a++) {
                for (int b = a + 1; b < names; b++) {
                    if (past[a][b] == 0 && past[b][a] == 0) {
                        pairs++;
                    }
                }
            }
            return pairs;
        }

        int wonFromBelow(int[] order) {
            int won = 0;
            for (int high = 0; high < names; high++) {
                for (int low = high + 1; low < names; low++) {
                    won += past[order[low]][order[high]];
                }
            }
            return won;
        }
    }

    /** Whom one may ask, and what a win does. It never changes, so that an image may keep it. */
    private static final class Club {
        /** The signs of what a win does, each at its number. */
        private static final String WINS = "tco";
        private static final int TAKES = 0, CHANGES = 1, ONE_UP = 2;
        private static final int NOT = -1, AND = -2, OR = -3, SHY = -4, BOLD = -5;
        private final int up;
        private final int wins;
        /** Tests (from 0 on) and what is done with their answers, each behind what it is done with. */
        private final int[] code;

        Club(int up, int wins, int[] code) {
            this.up = up;
            this.wins = wins;
            this.code = code;
        }

        /** A test as a number: the place of its letter, of its sign, its number. */
        static int testOf(int letter, int sign, int number) {
            return (letter * 3 + sign) * 100 + number;
        }

        /** Whether by shy and bold one may ask, whom the facts tell. */
        boolean lets(int[] facts) {
            // The answers still to be joined are bits, the latest one the lowest: no more than 13 stand open.
            int answers = 0;
            boolean shy = false;
            for (int i = 0; i < code.length; i++) {
                int last = answers & 1;
                switch (code[i]) {
                    case NOT:
                        answers ^= 1;
                        break;
                    case AND:
                        answers = answers >> 1 & (~1 | last);
                        break;
                    case OR:
                        answers = answers >> 1 | last;
                        break;
                    case SHY:
                        shy = shy || last == 1;
                        answers >>= 1;
                        break;
                    case BOLD:
                        if (last == 1) {
                            return true;
                        }
                        answers >>= 1;
                        break;
                    default:
                        answers = answers << 1 | (isTrue(code[i], facts) ? 1 : 0);
                }
            }
            return !shy;
        }

        private static boolean isTrue(int test, int[] facts) {
            int letter = test / 300;
            if (letter < 0 || letter >= facts.length) {
                return false;
            }
            int number = test % 100;
            switch (test / 100 % 3) {
                case 0:
                    return facts[letter] < number;
                case 1:
                    return facts[letter] == number;
                default:
                    return facts[letter] > number;
            }
        }

        /** How many rungs a win over one so many higher is worth. */
        int worth(int higher) {
            return wins == ONE_UP ? 1 : higher;
        }

        /** The one on a rung wins over the one on a higher rung. */
        void climb(int[] board, int from, int to) {
            if (wins == CHANGES) {
                swap(board, from, to);
            } else {
                move(board, from, from - worth(from - to));
            }
        }
    }

    /** Reads a tape as a club; where it stops is the fault. */
    private static final class ClubReader {
        private final int[] code = new int[MOST_BYTES];
        private int length = 0;
        private byte[] tape = new byte[0];
        private int size = 0;
        private int at = 0;
        private int up = 0;
        private int wins = Club.TAKES;

        /** The club, or null: then place() is the fault. */
        Club read(byte[] from, int bytes) {
            tape = from;
            size = bytes;
            at = 0;
            length = 0;
            up = 0;
            wins = Club.TAKES;
            for (int i = 1; i <= MOST_CLAUSES && readClause(); i++) {
                if (at >= size) {
                    return new Club(up, wins, ownCode());
                }
                if (i == MOST_CLAUSES || !take(';')) {
                    return null;
                }
            }
            return null;
        }

        int place() {
            return at;
        }

        private int[] ownCode() {
            int[] own = new int[length];
            System.arraycopy(code, 0, own, 0, length);
            return own;
        }

        private boolean readClause() {
            // No two of the words begin alike, so the one that begins right is the one that is told.
            switch (takeOneOf("uwsb")) {
                case 0:
                    return takeWord("p ") && readUp();
                case 1:
                    return takeWord("ins ") && readWins();
                case 2:
                    return takeWord("hy ") && readEither(0) && put(Club.SHY);
                case 3:
                    return takeWord("old ") && readEither(0) && put(Club.BOLD);
                default:
                    return false;
            }
        }

        private boolean readUp() {
            up = readNumber();
            return up >= 0;
        }

        private boolean readWins() {
            wins = takeOneOf(Club.WINS);
            return wins >= 0;
        }

        private boolean readEither(int open) {
            if (!readBoth(open)) {
                return false;
            }
            for (int i = 0; i < MOST_BYTES && take('|'); i++) {
                if (!readBoth(open) || !put(Club.OR)) {
                    return false;
                }
            }
            return true;
        }

        private boolean readBoth(int open) {
            if (!readFactor(open)) {
                return false;
            }
            for (int i = 0; i < MOST_BYTES && take('&'); i++) {
                if (!readFactor(open) || !put(Club.AND)) {
                    return false;
                }
            }
            return true;
        }

        private boolean readFactor(int open) {
            if (open < MOST_OPEN && take('!')) {
                return readFactor(open + 1) && put(Club.NOT);
            }
            if (open < MOST_OPEN && take('(')) {
                return readEither(open + 1) && take(')');
            }
            int letter = takeOneOf("abrucd");
            int sign = letter < 0 ? -1 : takeOneOf("<=>");
            int number = sign < 0 ? -1 : readNumber();
            return number >= 0 && put(Club.testOf(letter, sign, number));
        }

        /** A number of one or two digits, or -1. */
        private int readNumber() {
            int first = takeOneOf("0123456789");
            if (first <= 0) {
                return first;
            }
            int second = takeOneOf("0123456789");
            return second < 0 ? first : first * 10 + second;
        }

        private boolean take(char sign) {
            if (at >= size || at >= tape.length || tape[at] != sign) {
                return false;
            }
            at++;
            return true;
        }

        private boolean takeWord(String word) {
            for (int i = 0; i < word.length(); i++) {
                if (!take(word.charAt(i))) {
                    return false;
                }
            }
            return true;
        }

        /** The place among the signs of the one that is next, or -1. */
        private int takeOneOf(String signs) {
            if (at >= size || at >= tape.length) {
                return -1;
            }
            int place = signs.indexOf((char) (tape[at] & 255));
            if (place >= 0) {
                at++;
            }
            return place;
        }

        private boolean put(int step) {
            if (length >= code.length) {
                return false;
            }
            code[length] = step;
            length++;
            return true;
        }
    }

    /** All boards that may be behind some days, with how much of the whole each is. */
    private static final class Days {
        /** A day makes of one board two at most, and there are six of them at most. */
        private static final int MOST_BOARDS = 64;
        private final Ladder ladder;
        /** Boards as numbers, of which the lesser one is the first as a row. */
        private int[] boards = new int[MOST_BOARDS];
        private long[] weights = new long[MOST_BOARDS];
        private int count = 0;
        private int[] boardsBefore = new int[MOST_BOARDS];
        private long[] weightsBefore = new long[MOST_BOARDS];
        private int countBefore = 0;
        private long whole = 1;
        private final int[] here = new int[MOST_NAMES];

        Days(Ladder ladder) {
            this.ladder = ladder;
        }

        void startFrom(int[] board) {
            whole = 1;
            count = 0;
            add(numberOf(board), 1);
        }

        void goOn(Club by, int day, int refusing) {
            beginDay();
            if (ladder.names == 0) {
                return;
            }
            int rung = ladder.turn(day);
            for (int i = 0; i < countBefore; i++) {
                lay(boardsBefore[i]);
                play(by, rung, ladder.whom(by, here, rung, day, refusing), i);
            }
        }

        /** The first day, on which the one whose turn it is asks somebody told, or nobody. */
        void goOnAsking(Club by, int day, int whom) {
            beginDay();
            if (ladder.names > 0 && countBefore > 0) {
                lay(boardsBefore[0]);
                play(by, ladder.turn(day), whom, 0);
            }
        }

        private void beginDay() {
            int[] freeBoards = boardsBefore;
            long[] freeWeights = weightsBefore;
            boardsBefore = boards;
            weightsBefore = weights;
            countBefore = count;
            boards = freeBoards;
            weights = freeWeights;
            count = 0;
            whole *= SURE;
        }

        /** Adds what may become of the board that is laid, the i-th of the day before. */
        private void play(Club by, int rung, int whom, int i) {
            if (whom == NOBODY) {
                add(boardsBefore[i], weightsBefore[i] * SURE);
                return;
            }
            int chance = ladder.chances[here[rung]][whom];
            add(boardsBefore[i], weightsBefore[i] * (SURE - chance));
            for (int to = 0; to < rung; to++) {
                if (here[to] == whom) {
                    by.climb(here, rung, to);
                    break;
                }
            }
            add(numberOf(here), weightsBefore[i] * chance);
        }

        private void add(int board, long weight) {
            if (weight == 0) {
                return;
            }
            for (int i = 0; i < count; i++) {
                if (boards[i] == board) {
                    weights[i] += weight;
                    return;
                }
            }
            if (count < MOST_BOARDS) {
                boards[count] = board;
                weights[count] = weight;
                count++;
            }
        }

        private int numberOf(int[] board) {
            int number = 0;
            for (int rung = 0; rung < ladder.names; rung++) {
                number = number << 3 | board[rung];
            }
            return number;
        }

        /** The name on a rung of a board as a number. */
        private int nameOn(int board, int rung) {
            return board >> 3 * (ladder.names - 1 - rung) & 7;
        }

        private void lay(int board) {
            for (int rung = 0; rung < ladder.names; rung++) {
                here[rung] = nameOn(board, rung);
            }
        }

        long whole() {
            return whole;
        }

        long onRung(int name, int rung) {
            long sum = 0;
            for (int i = 0; i < count; i++) {
                if (nameOn(boards[i], rung) == name) {
                    sum += weights[i];
                }
            }
            return sum;
        }

        long sumOfRungs(int name) {
            long sum = 0;
            for (int rung = 1; rung < ladder.names; rung++) {
                sum += rung * onRung(name, rung);
            }
            return sum;
        }

        long being(int[] board) {
            int number = numberOf(board);
            for (int i = 0; i < count; i++) {
                if (boards[i] == number) {
                    return weights[i];
                }
            }
            return 0;
        }

        void findLikeliest(int[] board) {
            int likeliest = 0;
            for (int i = 1; i < count; i++) {
                if (weights[i] > weights[likeliest]
                        || weights[i] == weights[likeliest] && boards[i] < boards[likeliest]) {
                    likeliest = i;
                }
            }
            for (int rung = 0; rung < ladder.names; rung++) {
                board[rung] = nameOn(boards[likeliest], rung);
            }
        }
    }

    /**
     * Whom one asks of those whom it may, and its acts: a kind's own ones, or those of the kind above.
     * It never changes, so that an image may keep it. (LANGUAGE.md lists no annotation: what overrides is unmarked.)
     */
    private static class Asker {
        private final int number;
        private final int v;

        Asker(int number, int v) {
            this.number = number;
            this.v = v;
        }

        int number() {
            return number;
        }

        int v() {
            return v;
        }

        int kind() {
            return 0;
        }

        int pick(int[][] chances, Club by, int[] board, int rung, int may) {
            int picked = NOBODY;
            int greatest = -1;
            for (int r = rung - 1; r >= 0; r--) {
                int chance = chances[board[rung]][board[r]];
                if (holds(may, board[r]) && chance > greatest) {
                    greatest = chance;
                    picked = board[r];
                }
            }
            return picked;
        }

        int asking(int x, int[] bodies) {
            note(bodies, 1);
            return x + number;
        }

        int taking(int x, int[] bodies) {
            note(bodies, 2);
            return asking(x, bodies) - v;
        }

        int waiting(int x, int[] bodies) {
            note(bodies, 3);
            return taking(x, bodies) * 2;
        }

        static void note(int[] bodies, int body) {
            bodies[0]++;
            if (bodies[0] < bodies.length) {
                bodies[bodies[0]] = body;
            }
        }
    }

    private static final class Near extends Asker {
        private static final int KIND = 1;

        Near(int number, int v) {
            super(number, v);
        }

        int kind() {
            return KIND;
        }

        int pick(int[][] chances, Club by, int[] board, int rung, int may) {
            for (int r = rung - 1; r >= 0; r--) {
                if (holds(may, board[r])) {
                    return board[r];
                }
            }
            return NOBODY;
        }

        int asking(int x, int[] bodies) {
            note(bodies, 11);
            return super.asking(x * 3, bodies);
        }
    }

    private static class Far extends Asker {
        private static final int KIND = 2;

        Far(int number, int v) {
            super(number, v);
        }

        int kind() {
            return KIND;
        }

        int pick(int[][] chances, Club by, int[] board, int rung, int may) {
            for (int r = 0; r < rung; r++) {
                if (holds(may, board[r])) {
                    return board[r];
                }
            }
            return NOBODY;
        }

        int taking(int x, int[] bodies) {
            note(bodies, 21);
            return -super.taking(x, bodies);
        }
    }

    private static final class Safe extends Far {
        private static final int KIND = 3;

        Safe(int number, int v) {
            super(number, v);
        }

        int kind() {
            return KIND;
        }

        int pick(int[][] chances, Club by, int[] board, int rung, int may) {
            for (int r = 0; r < rung; r++) {
                if (holds(may, board[r]) && chances[board[rung]][board[r]] >= v()) {
                    return board[r];
                }
            }
            return NOBODY;
        }

        int waiting(int x, int[] bodies) {
            note(bodies, 41);
            return super.waiting(x - 1, bodies) + asking(2, bodies);
        }
    }

    private static final class Best extends Far {
        private static final int KIND = 4;

        Best(int number, int v) {
            super(number, v);
        }

        int kind() {
            return KIND;
        }

        int pick(int[][] chances, Club by, int[] board, int rung, int may) {
            int picked = NOBODY;
            int greatest = -1;
            for (int r = 0; r < rung; r++) {
                int hope = by.worth(rung - r) * chances[board[rung]][board[r]];
                if (holds(may, board[r]) && hope > greatest) {
                    greatest = hope;
                    picked = board[r];
                }
            }
            return picked;
        }

        int asking(int x, int[] bodies) {
            note(bodies, 51);
            return super.asking(x, bodies) ^ number();
        }
    }

    private static class Told extends Asker {
        private static final int KIND = 5;

        Told(int number, int v) {
            super(number, v);
        }

        int kind() {
            return KIND;
        }

        int pick(int[][] chances, Club by, int[] board, int rung, int may) {
            return v() < MOST_NAMES && holds(may, v()) ? v() : NOBODY;
        }

        int waiting(int x, int[] bodies) {
            note(bodies, 31);
            return super.waiting(x, bodies) ^ 7;
        }
    }

    private static final class Never extends Told {
        private static final int KIND = 6;

        Never(int number, int v) {
            super(number, v);
        }

        int kind() {
            return KIND;
        }

        int pick(int[][] chances, Club by, int[] board, int rung, int may) {
            return NOBODY;
        }

        int taking(int x, int[] bodies) {
            note(bodies, 61);
            return super.taking(x, bodies) + v();
        }
    }
}

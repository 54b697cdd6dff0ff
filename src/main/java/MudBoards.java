/** Mudlarks on a flat that the tide bares and floods: see README.md and the document's promises. */
public final class MudBoards {
    public static final int UNKNOWN = -1, OUTSIDE = -2, STATE = -3, FULL = -4, NONE = -9;

    private static final int CELLS = 12, ROW_LENGTH = 4, WAYS = 5;
    private static final int ALL_CELLS = 0xfff, ROW_BY_THE_WALL = 0x00f, LEFT_COLUMN = 0x111, RIGHT_COLUMN = 0x888;
    private static final int MOST_LETTERS = 60, MOST_TIDES = 6, MOST_FINDS = 5, MOST_LARKS = 4;
    private static final int MOST_ACTS = 14, MOST_SEEN = 6, SLOTS = 2;
    private static final int CLAY = 0, WET = 2, CROWN = 3;
    private static final int LIES = 0, CARRIED = 1, SOLD = 2;
    private static final int FAR_HOURS = 20, NEAR_HOURS = 9, SHARE_HOURS = 6;
    private static final int MOST_DOINGS = 4, MOST_STORMS = 6, MOST_SPRINGS = 30;
    private static final int TENTHS = 10, TWELFTHS = 12;
    private static final int COUNTS = 13;
    private static final long SPRING_FACTOR = 6364136223846793005L, SPRING_STEP = 1442695040888963407L;

    private final Text text;
    private final Flat ground;
    private final Shore shore;
    private final Shore trial;
    private final Acts acts;
    private final Slots slots;
    private final Sights sights;
    private final Outlook outlook;
    private final Outing outing;
    private long springSeed;

    public MudBoards() {
        text = new Text();
        ground = new Flat();
        shore = new Shore(ground);
        trial = new Shore(ground);
        acts = new Acts();
        slots = new Slots();
        sights = new Sights();
        outlook = new Outlook(ground, shore);
        outing = new Outing(ground, shore, trial);
        springSeed = 0;
    }

    // ---- the flat

    public int write(int letter) {
        if (!within(letter, 0, 255)) {
            return OUTSIDE;
        }
        return text.add(letter) ? text.length() : FULL;
    }

    public int wipe() {
        int was = text.length();
        text.clear();
        return was;
    }

    public int fault() {
        return text.firstFault();
    }

    public int flat() {
        if (text.firstFault() != NONE) {
            return STATE;
        }
        ground.readFrom(text);
        shore.startAnew();
        acts.forgetAll();
        slots.forgetAll();
        return 100 * ground.tideCount() + 10 * ground.findCount() + ground.larkCount();
    }

    public int cell(int cell, int what) {
        if (!within(cell, 0, CELLS - 1)) {
            return UNKNOWN;
        }
        switch (what) {
            case 0:
                return ground.height(cell);
            case 1:
                return ground.isBared(cell, shore.now()) ? 1 : 0;
            case 2:
                return shore.findsLyingAt(cell);
            case 3:
                return shore.larksAt(cell);
            default:
                return OUTSIDE;
        }
    }

    public int find(int find, int what) {
        if (!ground.isFind(find)) {
            return UNKNOWN;
        }
        switch (what) {
            case 0:
                return shore.cellOfFind(find);
            case 1:
                return ground.age(find);
            case 2:
                return ground.kind(find);
            case 3:
                return shore.stateOfFind(find);
            case 4:
                return shore.holder(find);
            default:
                return OUTSIDE;
        }
    }

    public int lark(int lark, int what) {
        if (!ground.isLark(lark)) {
            return UNKNOWN;
        }
        switch (what) {
            case 0:
                return shore.cellOfLark(lark);
            case 1:
                return ground.board(lark);
            case 2:
                return shore.coins(lark);
            case 3:
                return shore.carriedBy(lark);
            case 4:
                return shore.isDrowned(lark) ? 1 : 0;
            case 5:
                return shore.hasWalked(lark) ? 1 : 0;
            default:
                return OUTSIDE;
        }
    }

    // ---- acts

    public int walk(int lark, int way) {
        if (!ground.isLark(lark)) {
            return UNKNOWN;
        }
        if (!within(way, 1, WAYS - 1)) {
            return OUTSIDE;
        }
        if (!shore.canWalk(lark, way)) {
            return STATE;
        }
        acts.remember(shore);
        shore.tryWalk(lark, way);
        return shore.cellOfLark(lark);
    }

    public int hour() {
        acts.remember(shore);
        return shore.passHour();
    }

    public int dig(int lark, int find) {
        if (!ground.isLark(lark) || !ground.isFind(find)) {
            return UNKNOWN;
        }
        if (!shore.canDig(lark, find)) {
            return STATE;
        }
        acts.remember(shore);
        shore.tryDig(lark, find);
        return Integer.bitCount(shore.carriedBy(lark));
    }

    public int put(int lark) {
        if (!ground.isLark(lark)) {
            return UNKNOWN;
        }
        int carried = shore.carriedBy(lark);
        if (carried == 0) {
            return STATE;
        }
        acts.remember(shore);
        shore.layDown(lark);
        return Integer.bitCount(carried);
    }

    public int sell(int lark) {
        if (!ground.isLark(lark)) {
            return UNKNOWN;
        }
        if (!shore.canSell(lark)) {
            return STATE;
        }
        acts.remember(shore);
        shore.trySell(lark);
        return shore.coins(lark);
    }

    public int undo() {
        if (acts.size() == 0) {
            return STATE;
        }
        acts.takeBack(shore);
        return acts.size();
    }

    // ---- hours to come

    public int bared(int n) {
        if (!within(n, 0, FAR_HOURS)) {
            return OUTSIDE;
        }
        return ground.baredCells(shore.now() + n);
    }

    public int flooded(int cell) {
        if (!within(cell, 0, CELLS - 1)) {
            return UNKNOWN;
        }
        for (int n = 0; n <= FAR_HOURS; n++) {
            if (!ground.isBared(cell, shore.now() + n)) {
                return n;
            }
        }
        return NONE;
    }

    public int reach(int lark, int n) {
        if (!ground.isLark(lark)) {
            return UNKNOWN;
        }
        if (!within(n, 0, NEAR_HOURS)) {
            return OUTSIDE;
        }
        return shore.isDrowned(lark) ? STATE : outlook.cellsIn(lark, n);
    }

    public int home(int lark) {
        if (!ground.isLark(lark)) {
            return UNKNOWN;
        }
        return shore.isDrowned(lark) ? STATE : outlook.hoursHome(lark);
    }

    public int gets(int lark, int n, int what) {
        if (!ground.isLark(lark)) {
            return UNKNOWN;
        }
        if (!within(n, 1, NEAR_HOURS) || !within(what, 0, 1)) {
            return OUTSIDE;
        }
        if (shore.isDrowned(lark)) {
            return STATE;
        }
        int best = outlook.bestFind(lark, n);
        return best == NONE || what == 0 ? best : outlook.worthToGet(best);
    }

    public int judge(int n, long row) {
        if (!within(n, 1, MOST_DOINGS) || row < 0 || row >= thousands(n)) {
            return OUTSIDE;
        }
        trial.copyFrom(shore);
        long unit = thousands(n - 1);
        for (int place = 0; place < n && unit > 0; place++) {
            int doing = (int) (row / unit % 1000);
            if (!isSo(doing / 100, doing / 10 % 10, doing % 10)) {
                return place;
            }
            unit /= 1000;
        }
        return NONE;
    }

    // ---- which hour it was

    public int see(int cell, int n, int bare) {
        if (!within(cell, 0, CELLS - 1)) {
            return UNKNOWN;
        }
        if (!within(n, 0, NEAR_HOURS) || !within(bare, 0, 1)) {
            return OUTSIDE;
        }
        return sights.add(cell, n, bare == 1) ? sights.size() : FULL;
    }

    public int unsee() {
        int was = sights.size();
        sights.clear();
        return was;
    }

    public int phases() {
        int bits = 0;
        for (int hour = 0; hour < Math.max(1, ground.tideCount()); hour++) {
            if (sights.fitHour(hour, ground)) {
                bits |= bit(hour);
            }
        }
        return bits;
    }

    // ---- shares, rests, chances

    public int share(int lark, boolean upper) {
        if (!ground.isLark(lark)) {
            return UNKNOWN;
        }
        return partOfFraction(outlook.shareInTwelfths(lark), TWELFTHS, upper);
    }

    public int rests(int one, int other, int what) {
        if (!ground.isLark(one) || !ground.isLark(other)) {
            return UNKNOWN;
        }
        if (one == other || !within(what, 0, 1)) {
            return OUTSIDE;
        }
        if (shore.isDrowned(one) || shore.isDrowned(other)) {
            return STATE;
        }
        outing.playAll(one, other);
        return what == 0 ? outing.restCount() : outing.firstRest();
    }

    public int storms(int lark, int n, int x, boolean upper) {
        if (!ground.isLark(lark)) {
            return UNKNOWN;
        }
        if (!within(n, 1, MOST_STORMS) || !within(x, 0, TENTHS)) {
            return OUTSIDE;
        }
        if (shore.isDrowned(lark)) {
            return STATE;
        }
        int above = 1;
        int below = 1;
        for (int ahead = 1; ahead <= n; ahead++) {
            above *= outlook.tenthsToStand(lark, ahead, x);
            below *= TENTHS;
        }
        return partOfFraction(above, below, upper);
    }

    public long seed(long v) {
        long was = springSeed;
        springSeed = v;
        return was;
    }

    public int springs(int m) {
        if (!within(m, 1, MOST_SPRINGS)) {
            return OUTSIDE;
        }
        trial.copyFrom(shore);
        int sum = 0;
        for (int time = 0; time < m; time++) {
            springSeed = springSeed * SPRING_FACTOR + SPRING_STEP;
            doByChance((int) ((springSeed >>> 33) % 28));
            sum += trial.larksAlive() + Integer.bitCount(trial.findsThat(CARRIED));
        }
        return sum;
    }

    // ---- slots

    public int keep(int slot) {
        if (!within(slot, 0, SLOTS - 1)) {
            return UNKNOWN;
        }
        slots.store(slot, shore);
        return shore.now();
    }

    public int again(int slot) {
        if (!within(slot, 0, SLOTS - 1)) {
            return UNKNOWN;
        }
        if (!slots.isFilled(slot)) {
            return STATE;
        }
        slots.bringBack(slot, shore);
        acts.forgetAll();
        return shore.now();
    }

    public int count(int what) {
        if (!within(what, 0, COUNTS - 1)) {
            return OUTSIDE;
        }
        switch (what) {
            case 0:
                return text.length();
            case 1:
                return ground.tideCount();
            case 2:
                return ground.findCount();
            case 3:
                return ground.larkCount();
            case 4:
                return shore.now();
            case 5:
                return ground.waterIn(shore.now());
            case 6:
                return shore.findsThat(LIES);
            case 7:
                return shore.findsThat(CARRIED);
            case 8:
                return shore.findsThat(SOLD);
            case 9:
                return shore.drowned();
            case 10:
                return shore.coinsOfAll();
            case 11:
                return acts.size();
            default:
                return sights.size();
        }
    }

    // ---- told doings and doings by chance, on the trial shore alone

    private boolean isSo(int doing, int middle, int last) {
        switch (doing) {
            case 0:
                if (middle != 0 || last != 0) {
                    return false;
                }
                trial.passHour();
                return true;
            case 1:
                return trial.tryWalk(middle, last);
            case 2:
                return trial.tryDig(middle, last);
            case 3:
                return middle == 0 && trial.trySell(last);
            case 4:
                return ground.isLark(middle) && trial.coins(middle) >= last;
            case 5:
                return middle == 0 && ground.isLark(last) && !trial.isDrowned(last);
            default:
                return false;
        }
    }

    private void doByChance(int lot) {
        if (lot < 16) {
            trial.tryWalk(lot / 4, lot % 4 + 1);
        } else if (lot < 20) {
            trial.digLeast(lot - 16);
        } else {
            trial.passHour();
        }
    }

    // ---- numbers

    private static boolean within(int number, int least, int most) {
        return number >= least && number <= most;
    }

    private static int bit(int place) {
        return 1 << place;
    }

    private static boolean has(int bits, int place) {
        return (bits >> place & 1) == 1;
    }

    private static long thousands(int times) {
        long product = 1;
        for (int i = 0; i < times; i++) {
            product *= 1000;
        }
        return product;
    }

    private static int partOfFraction(int above, int below, boolean upper) {
        int divisor = greatestDivisor(above, below);
        if (divisor < 1) {
            return 0;
        }
        return (upper ? above : below) / divisor;
    }

    private static int greatestDivisor(int one, int other) {
        int a = one;
        int b = other;
        // Euclid's steps for two ints are fewer than 50.
        for (int i = 0; i < 64 && b != 0; i++) {
            int left = a % b;
            a = b;
            b = left;
        }
        return a;
    }

    private static int cellBehind(int cell, int way) {
        int column = cell % ROW_LENGTH;
        switch (way) {
            case 0:
                return cell;
            case 1:
                return column > 0 ? cell - 1 : NONE;
            case 2:
                return column < ROW_LENGTH - 1 ? cell + 1 : NONE;
            case 3:
                return cell >= ROW_LENGTH ? cell - ROW_LENGTH : NONE;
            case 4:
                return cell < CELLS - ROW_LENGTH ? cell + ROW_LENGTH : NONE;
            default:
                return NONE;
        }
    }

    /** THE TEXT and its first FAULT. */
    private static final class Text {
        // What a FLAT asks for next; the figures 1 to 12 stand for the twelve HEIGHTS.
        private static final int START = 0, LAST_HEIGHT = 12, PARTS = 13, TIDE_WATER = 14;
        private static final int FIND_CELL = 15, FIND_AGE = 16, FIND_KIND = 17, LARK_CELL = 18, LARK_BOARD = 19;

        private final int[] letters = new int[MOST_LETTERS];
        private int length;
        private int tidesTold;
        private int findsTold;
        private int larksTold;

        int length() {
            return length;
        }

        boolean add(int letter) {
            if (!within(length, 0, MOST_LETTERS - 1)) {
                return false;
            }
            letters[length] = letter;
            length++;
            return true;
        }

        void clear() {
            length = 0;
        }

        int letterAt(int place) {
            return within(place, 0, length - 1) ? letters[place] : NONE;
        }

        int firstFault() {
            tidesTold = 0;
            findsTold = 0;
            larksTold = 0;
            int asked = START;
            for (int place = 0; place < length; place++) {
                asked = askedBehind(asked, letterAt(place));
                if (asked == NONE) {
                    return place;
                }
            }
            return asked == PARTS ? NONE : length;
        }

        private int askedBehind(int asked, int letter) {
            if (asked == START) {
                return letter == 'M' ? asked + 1 : NONE;
            }
            if (asked == PARTS) {
                return askedInPart(letter);
            }
            if (!fits(asked, letter)) {
                return NONE;
            }
            boolean endsPart = asked == TIDE_WATER || asked == FIND_KIND || asked == LARK_BOARD;
            return endsPart ? PARTS : asked + 1;
        }

        private int askedInPart(int letter) {
            if (letter == 'W' && tidesTold < MOST_TIDES) {
                tidesTold++;
                return TIDE_WATER;
            }
            if (letter == 'F' && findsTold < MOST_FINDS) {
                findsTold++;
                return FIND_CELL;
            }
            if (letter == 'L' && larksTold < MOST_LARKS) {
                larksTold++;
                return LARK_CELL;
            }
            return NONE;
        }

        private static boolean fits(int asked, int letter) {
            if (asked <= LAST_HEIGHT || asked == TIDE_WATER) {
                return within(letter, '0', '9');
            }
            if (asked == FIND_AGE) {
                return within(letter, '1', '9');
            }
            if (asked == FIND_CELL || asked == LARK_CELL) {
                return within(letter, 'a', 'l');
            }
            return within(letter, '0', '3');
        }
    }

    /** THE FLAT as it was told: what no ACT changes. */
    private static final class Flat {
        private final int[] heights = new int[CELLS];
        private final int[] tides = new int[MOST_TIDES];
        private final int[] findCells = new int[MOST_FINDS];
        private final int[] ages = new int[MOST_FINDS];
        private final int[] kinds = new int[MOST_FINDS];
        private final int[] larkCells = new int[MOST_LARKS];
        private final int[] boards = new int[MOST_LARKS];
        private int tideCount;
        private int findCount;
        private int larkCount;

        /** THE TEXT has no FAULT. */
        void readFrom(Text text) {
            tideCount = 0;
            findCount = 0;
            larkCount = 0;
            for (int cell = 0; cell < CELLS; cell++) {
                heights[cell] = text.letterAt(1 + cell) - '0';
            }
            int place = 1 + CELLS;
            while (place < text.length()) {
                int part = text.letterAt(place);
                if (part == 'W') {
                    addTide(text, place);
                    place += 2;
                } else if (part == 'F') {
                    addFind(text, place);
                    place += 4;
                } else {
                    addLark(text, place);
                    place += 3;
                }
            }
        }

        private void addTide(Text text, int place) {
            if (within(tideCount, 0, MOST_TIDES - 1)) {
                tides[tideCount] = text.letterAt(place + 1) - '0';
                tideCount++;
            }
        }

        private void addFind(Text text, int place) {
            if (within(findCount, 0, MOST_FINDS - 1)) {
                findCells[findCount] = text.letterAt(place + 1) - 'a';
                ages[findCount] = text.letterAt(place + 2) - '0';
                kinds[findCount] = text.letterAt(place + 3) - '0';
                findCount++;
            }
        }

        private void addLark(Text text, int place) {
            if (within(larkCount, 0, MOST_LARKS - 1)) {
                larkCells[larkCount] = text.letterAt(place + 1) - 'a';
                boards[larkCount] = text.letterAt(place + 2) - '0';
                larkCount++;
            }
        }

        int tideCount() {
            return tideCount;
        }

        int findCount() {
            return findCount;
        }

        int larkCount() {
            return larkCount;
        }

        boolean isFind(int find) {
            return find >= 0 && find < findCount && find < MOST_FINDS;
        }

        boolean isLark(int lark) {
            return lark >= 0 && lark < larkCount && lark < MOST_LARKS;
        }

        int height(int cell) {
            return cell >= 0 && cell < CELLS ? heights[cell] : NONE;
        }

        int toldCellOfFind(int find) {
            return isFind(find) ? findCells[find] : NONE;
        }

        int toldCellOfLark(int lark) {
            return isLark(lark) ? larkCells[lark] : NONE;
        }

        int age(int find) {
            return isFind(find) ? ages[find] : NONE;
        }

        int kind(int find) {
            return isFind(find) ? kinds[find] : NONE;
        }

        int board(int lark) {
            return isLark(lark) ? boards[lark] : NONE;
        }

        int waterIn(int hour) {
            return tideCount > 0 && tideCount <= MOST_TIDES && hour >= 0 ? tides[hour % tideCount] : 0;
        }

        boolean isBared(int cell, int hour) {
            return height(cell) >= waterIn(hour);
        }

        int baredCells(int hour) {
            int bits = 0;
            for (int cell = 0; cell < CELLS; cell++) {
                if (isBared(cell, hour)) {
                    bits |= bit(cell);
                }
            }
            return bits;
        }

        boolean stands(int lark, int cell, int hour) {
            return height(cell) + board(lark) >= waterIn(hour);
        }

        int cellsToStandOn(int lark, int hour) {
            int least = waterIn(hour) - (isLark(lark) ? boards[lark] : 0);
            int bits = 0;
            for (int cell = 0; cell < CELLS; cell++) {
                if (heights[cell] >= least) {
                    bits |= bit(cell);
                }
            }
            return bits;
        }

        int worth(int find, boolean isFresh) {
            int age = age(find);
            switch (kind(find)) {
                case CLAY:
                    return age;
                case WET:
                    return isFresh ? 2 * age : 0;
                case CROWN:
                    return age / 2;
                default:
                    return 0;
            }
        }
    }

    /** What ACTS change, in one row of numbers, so that it is remembered, kept and tried out by one copy. */
    private static final class Shore {
        static final int SIZE = 27;

        private static final int LARK_CELL = 0, COINS = 4, FIND_CELL = 8, HOLDER = 13, DUG_IN = 18;
        private static final int HOUR = 23, DROWNED = 24, WALKED = 25, SOLD_FINDS = 26;

        private final Flat ground;
        private final int[] row = new int[SIZE];

        Shore(Flat ground) {
            this.ground = ground;
            startAnew();
        }

        void startAnew() {
            for (int lark = 0; lark < MOST_LARKS; lark++) {
                row[LARK_CELL + lark] = ground.toldCellOfLark(lark);
                row[COINS + lark] = 0;
            }
            for (int find = 0; find < MOST_FINDS; find++) {
                row[FIND_CELL + find] = ground.toldCellOfFind(find);
                row[HOLDER + find] = NONE;
                row[DUG_IN + find] = NONE;
            }
            row[HOUR] = 0;
            row[DROWNED] = 0;
            row[WALKED] = 0;
            row[SOLD_FINDS] = 0;
        }

        void copyFrom(Shore other) {
            System.arraycopy(other.row, 0, row, 0, SIZE);
        }

        void saveTo(int[] rows, int at) {
            if (within(at, 0, rows.length - SIZE)) {
                System.arraycopy(row, 0, rows, at, SIZE);
            }
        }

        void loadFrom(int[] rows, int at) {
            if (within(at, 0, rows.length - SIZE)) {
                System.arraycopy(rows, at, row, 0, SIZE);
            }
        }

        int now() {
            return row[HOUR];
        }

        int drowned() {
            return row[DROWNED];
        }

        int cellOfLark(int lark) {
            return ground.isLark(lark) ? row[LARK_CELL + lark] : NONE;
        }

        int coins(int lark) {
            return ground.isLark(lark) ? row[COINS + lark] : 0;
        }

        int cellOfFind(int find) {
            return ground.isFind(find) ? row[FIND_CELL + find] : NONE;
        }

        int holder(int find) {
            return ground.isFind(find) ? row[HOLDER + find] : NONE;
        }

        int stateOfFind(int find) {
            if (cellOfFind(find) != NONE) {
                return LIES;
            }
            return has(row[SOLD_FINDS], find) ? SOLD : CARRIED;
        }

        boolean isDrowned(int lark) {
            return ground.isLark(lark) && has(row[DROWNED], lark);
        }

        boolean hasWalked(int lark) {
            return ground.isLark(lark) && has(row[WALKED], lark);
        }

        int findsThat(int state) {
            int bits = 0;
            for (int find = 0; find < ground.findCount(); find++) {
                if (stateOfFind(find) == state) {
                    bits |= bit(find);
                }
            }
            return bits;
        }

        int findsLyingAt(int cell) {
            int bits = 0;
            for (int find = 0; find < ground.findCount(); find++) {
                if (cellOfFind(find) == cell) {
                    bits |= bit(find);
                }
            }
            return bits;
        }

        int carriedBy(int lark) {
            int bits = 0;
            for (int find = 0; find < MOST_FINDS; find++) {
                if (row[HOLDER + find] == lark && !has(row[SOLD_FINDS], find)) {
                    bits |= bit(find);
                }
            }
            return bits;
        }

        int larksAt(int cell) {
            int bits = 0;
            for (int lark = 0; lark < ground.larkCount(); lark++) {
                if (cellOfLark(lark) == cell) {
                    bits |= bit(lark);
                }
            }
            return bits;
        }

        int larksAlive() {
            return ground.larkCount() - Integer.bitCount(row[DROWNED]);
        }

        int coinsOfAll() {
            int sum = 0;
            for (int lark = 0; lark < ground.larkCount(); lark++) {
                sum += coins(lark);
            }
            return sum;
        }

        private boolean isInRowByTheWall(int lark) {
            return within(cellOfLark(lark), 0, ROW_LENGTH - 1);
        }

        boolean canWalk(int lark, int way) {
            if (!ground.isLark(lark) || !within(way, 1, WAYS - 1) || isDrowned(lark) || hasWalked(lark)) {
                return false;
            }
            int goal = cellBehind(cellOfLark(lark), way);
            return goal != NONE && ground.stands(lark, goal, now());
        }

        boolean tryWalk(int lark, int way) {
            if (!canWalk(lark, way)) {
                return false;
            }
            row[LARK_CELL + lark] = cellBehind(cellOfLark(lark), way);
            row[WALKED] |= bit(lark);
            return true;
        }

        int passHour() {
            row[HOUR]++;
            row[WALKED] = 0;
            int drownedNow = 0;
            for (int lark = 0; lark < ground.larkCount(); lark++) {
                if (!isDrowned(lark) && !ground.stands(lark, cellOfLark(lark), now())) {
                    layDown(lark);
                    row[DROWNED] |= bit(lark);
                    drownedNow++;
                }
            }
            return drownedNow;
        }

        boolean canDig(int lark, int find) {
            if (!ground.isLark(lark) || !ground.isFind(find) || isDrowned(lark)) {
                return false;
            }
            int cell = cellOfLark(lark);
            return Integer.bitCount(carriedBy(lark)) < 2 && cellOfFind(find) == cell && ground.isBared(cell, now());
        }

        boolean tryDig(int lark, int find) {
            if (!canDig(lark, find)) {
                return false;
            }
            row[FIND_CELL + find] = NONE;
            row[HOLDER + find] = lark;
            row[DUG_IN + find] = now();
            return true;
        }

        void digLeast(int lark) {
            for (int find = 0; find < ground.findCount(); find++) {
                if (tryDig(lark, find)) {
                    return;
                }
            }
        }

        void layDown(int lark) {
            int carried = carriedBy(lark);
            for (int find = 0; find < MOST_FINDS; find++) {
                if (has(carried, find)) {
                    row[FIND_CELL + find] = cellOfLark(lark);
                    row[HOLDER + find] = NONE;
                }
            }
        }

        boolean canSell(int lark) {
            return carriedBy(lark) != 0 && isInRowByTheWall(lark);
        }

        boolean trySell(int lark) {
            if (!ground.isLark(lark) || !canSell(lark)) {
                return false;
            }
            int carried = carriedBy(lark);
            for (int find = 0; find < MOST_FINDS; find++) {
                if (has(carried, find)) {
                    row[COINS + lark] += ground.worth(find, row[DUG_IN + find] == now());
                    row[SOLD_FINDS] |= bit(find);
                }
            }
            return true;
        }
    }

    /** THE ROW of ACTS: the shore as it was ahead of each. */
    private static final class Acts {
        private final int[] rows = new int[MOST_ACTS * Shore.SIZE];
        private int size;

        int size() {
            return size;
        }

        void forgetAll() {
            size = 0;
        }

        void remember(Shore shore) {
            if (size >= MOST_ACTS) {
                System.arraycopy(rows, Shore.SIZE, rows, 0, (MOST_ACTS - 1) * Shore.SIZE);
                size = MOST_ACTS - 1;
            }
            shore.saveTo(rows, size * Shore.SIZE);
            size++;
        }

        void takeBack(Shore shore) {
            if (size > 0) {
                size--;
                shore.loadFrom(rows, size * Shore.SIZE);
            }
        }
    }

    /** Shores that are kept. */
    private static final class Slots {
        private final int[] rows = new int[SLOTS * Shore.SIZE];
        private int filled;

        void forgetAll() {
            filled = 0;
        }

        boolean isFilled(int slot) {
            return within(slot, 0, SLOTS - 1) && has(filled, slot);
        }

        void store(int slot, Shore shore) {
            if (within(slot, 0, SLOTS - 1)) {
                shore.saveTo(rows, slot * Shore.SIZE);
                filled |= bit(slot);
            }
        }

        void bringBack(int slot, Shore shore) {
            if (isFilled(slot)) {
                shore.loadFrom(rows, slot * Shore.SIZE);
            }
        }
    }

    /** What was SEEN behind an HOUR that nobody knows. */
    private static final class Sights {
        private final int[] cells = new int[MOST_SEEN];
        private final int[] hours = new int[MOST_SEEN];
        private final boolean[] bare = new boolean[MOST_SEEN];
        private int size;

        int size() {
            return size;
        }

        void clear() {
            size = 0;
        }

        boolean add(int cell, int behind, boolean isBare) {
            if (!within(size, 0, MOST_SEEN - 1)) {
                return false;
            }
            cells[size] = cell;
            hours[size] = behind;
            bare[size] = isBare;
            size++;
            return true;
        }

        boolean fitHour(int hour, Flat ground) {
            for (int i = 0; i < size && i < MOST_SEEN; i++) {
                if (ground.isBared(cells[i], hour + hours[i]) != bare[i]) {
                    return false;
                }
            }
            return true;
        }
    }

    /** Where LARKS can be in HOURS to come, and what they can get there; CELLS and FINDS are bits here. */
    private static final class Outlook {
        private final Flat ground;
        private final Shore shore;
        private final int[] homeward = new int[NEAR_HOURS + 1];
        private final int[] toGet = new int[MOST_LARKS];

        Outlook(Flat ground, Shore shore) {
            this.ground = ground;
            this.shore = shore;
        }

        int cellsIn(int lark, int hours) {
            int cells = bit(shore.cellOfLark(lark));
            for (int over = 0; over < hours; over++) {
                cells = cellsBehindHour(lark, cells, over);
            }
            return cells;
        }

        int hoursHome(int lark) {
            int cells = bit(shore.cellOfLark(lark));
            for (int over = 0; over <= FAR_HOURS; over++) {
                if ((cells & ROW_BY_THE_WALL) != 0) {
                    return over;
                }
                cells = cellsBehindHour(lark, cells, over);
            }
            return NONE;
        }

        /** From CELLS where the LARK may be when so many HOURS are over to those when one more is. */
        private int cellsBehindHour(int lark, int cells, int over) {
            int walkedTo = neighbours(cells) & goals(lark, over);
            return (cells | walkedTo) & ground.cellsToStandOn(lark, shore.now() + over + 1);
        }

        /** The same way back: where it may have been one HOUR sooner, when so many were over. */
        private int cellsAheadOfHour(int lark, int cells, int over) {
            int met = cells & ground.cellsToStandOn(lark, shore.now() + over + 1);
            return met | neighbours(met & goals(lark, over));
        }

        private int goals(int lark, int over) {
            boolean isTired = over == 0 && shore.hasWalked(lark);
            return isTired ? 0 : ground.cellsToStandOn(lark, shore.now() + over);
        }

        private static int neighbours(int cells) {
            int left = (cells & ~LEFT_COLUMN) >> 1;
            int right = (cells & ~RIGHT_COLUMN) << 1;
            int up = cells >> ROW_LENGTH;
            int down = cells << ROW_LENGTH & ALL_CELLS;
            return left | right | up | down;
        }

        int findsToGet(int lark, int hours) {
            if (shore.isDrowned(lark) || !within(hours, 0, NEAR_HOURS)) {
                return 0;
            }
            homeward[hours] = ROW_BY_THE_WALL;
            for (int over = hours - 1; over >= 0; over--) {
                homeward[over] = ROW_BY_THE_WALL | cellsAheadOfHour(lark, homeward[over + 1], over);
            }
            int finds = 0;
            int cells = bit(shore.cellOfLark(lark));
            for (int over = 0; over <= hours; over++) {
                finds |= findsOn(cells & homeward[over] & ground.baredCells(shore.now() + over));
                cells = cellsBehindHour(lark, cells, over);
            }
            return finds;
        }

        private int findsOn(int cells) {
            int finds = 0;
            for (int cell = 0; cell < CELLS; cell++) {
                if (has(cells, cell)) {
                    finds |= shore.findsLyingAt(cell);
                }
            }
            return finds;
        }

        int bestFind(int lark, int hours) {
            int finds = findsToGet(lark, hours);
            int best = NONE;
            for (int find = 0; find < ground.findCount(); find++) {
                if (has(finds, find) && (best == NONE || worthToGet(find) > worthToGet(best))) {
                    best = find;
                }
            }
            return best;
        }

        int worthToGet(int find) {
            return ground.worth(find, within(shore.cellOfFind(find), 0, ROW_LENGTH - 1));
        }

        /** A FIND counts for whoever of those who may get it comes first: in the mean each has a like part of it. */
        int shareInTwelfths(int lark) {
            for (int other = 0; other < MOST_LARKS; other++) {
                toGet[other] = ground.isLark(other) ? findsToGet(other, SHARE_HOURS) : 0;
            }
            int twelfths = 0;
            for (int find = 0; find < ground.findCount(); find++) {
                if (ground.isLark(lark) && has(toGet[lark], find)) {
                    twelfths += TWELFTHS / Math.max(1, gettersOf(find));
                }
            }
            return twelfths;
        }

        private int gettersOf(int find) {
            int getters = 0;
            for (int finds : toGet) {
                if (has(finds, find)) {
                    getters++;
                }
            }
            return getters;
        }

        int tenthsToStand(int lark, int ahead, int tenthsOfStorm) {
            int footing = ground.height(shore.cellOfLark(lark)) + ground.board(lark);
            int spare = footing - ground.waterIn(shore.now() + ahead);
            if (spare < 0) {
                return 0;
            }
            return spare == 0 ? TENTHS - tenthsOfStorm : TENTHS;
        }
    }

    /** Two LARKS who go out, and the pairs of WAYS at which they rest. */
    private static final class Outing {
        private static final int PAIRS = WAYS * WAYS, ALIVE = 3;

        private final Flat ground;
        private final Shore shore;
        private final Shore trial;
        private final int[] oneHas = new int[PAIRS];
        private final int[] otherHas = new int[PAIRS];

        Outing(Flat ground, Shore shore, Shore trial) {
            this.ground = ground;
            this.shore = shore;
            this.trial = trial;
        }

        void playAll(int one, int other) {
            for (int pair = 0; pair < PAIRS; pair++) {
                trial.copyFrom(shore);
                trial.tryWalk(one, pair / WAYS);
                trial.tryWalk(other, pair % WAYS);
                trial.passHour();
                oneHas[pair] = gain(one, other);
                otherHas[pair] = gain(other, one);
            }
        }

        private int gain(int lark, int rival) {
            if (trial.isDrowned(lark)) {
                return 0;
            }
            int cell = trial.cellOfLark(lark);
            boolean isAlone = trial.isDrowned(rival) || trial.cellOfLark(rival) != cell;
            return isAlone && ground.isBared(cell, trial.now()) ? ALIVE + greatestAge(cell) : ALIVE;
        }

        private int greatestAge(int cell) {
            int lying = trial.findsLyingAt(cell);
            int greatest = 0;
            for (int find = 0; find < ground.findCount(); find++) {
                if (has(lying, find)) {
                    greatest = Math.max(greatest, ground.age(find));
                }
            }
            return greatest;
        }

        int restCount() {
            int rests = 0;
            for (int pair = 0; pair < PAIRS; pair++) {
                if (isRest(pair)) {
                    rests++;
                }
            }
            return rests;
        }

        int firstRest() {
            for (int pair = 0; pair < PAIRS; pair++) {
                if (isRest(pair)) {
                    return 10 * (pair / WAYS) + pair % WAYS;
                }
            }
            return NONE;
        }

        private boolean isRest(int pair) {
            if (!within(pair, 0, PAIRS - 1)) {
                return false;
            }
            int oneWay = pair / WAYS;
            int otherWay = pair % WAYS;
            for (int way = 0; way < WAYS; way++) {
                if (oneHas[way * WAYS + otherWay] > oneHas[pair] || otherHas[oneWay * WAYS + way] > otherHas[pair]) {
                    return false;
                }
            }
            return true;
        }
    }
}

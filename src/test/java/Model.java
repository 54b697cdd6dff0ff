import java.util.ArrayList;
import java.util.List;
import java.util.TreeSet;
import java.util.regex.Matcher;
import java.util.regex.Pattern;

/** A second reading of the document, by plain trying out, against which random runs are held. */
final class Model {
    private static final Pattern FLAT = Pattern.compile("M[0-9]{12}(W[0-9]|F[a-l][1-9][0-3]|L[a-l][0-3])*", Pattern.DOTALL);
    private static final int UNKNOWN = -1, OUTSIDE = -2, STATE = -3, FULL = -4, NONE = -9;

    /** What acts change. */
    private static final class Scene {
        int hour;
        int[] at = new int[4];
        int[] coins = new int[4];
        boolean[] drowned = new boolean[4];
        boolean[] walked = new boolean[4];
        List<List<Integer>> bags = new ArrayList<>();
        int[] lies = new int[5];
        int[] dug = new int[5];
        int[] soldBy = new int[5];

        Scene() {
            for (int i = 0; i < 4; i++) {
                bags.add(new ArrayList<>());
            }
            for (int i = 0; i < 5; i++) {
                lies[i] = NONE;
                dug[i] = NONE;
                soldBy[i] = NONE;
            }
        }

        Scene copy() {
            Scene c = new Scene();
            c.hour = hour;
            c.at = at.clone();
            c.coins = coins.clone();
            c.drowned = drowned.clone();
            c.walked = walked.clone();
            for (int i = 0; i < 4; i++) {
                c.bags.set(i, new ArrayList<>(bags.get(i)));
            }
            c.lies = lies.clone();
            c.dug = dug.clone();
            c.soldBy = soldBy.clone();
            return c;
        }
    }

    private String text = "";
    private int[] heights = new int[12];
    private List<Integer> tides = new ArrayList<>();
    private List<int[]> finds = new ArrayList<>();
    private List<int[]> larks = new ArrayList<>();
    private Scene scene = new Scene();
    private final List<Scene> acts = new ArrayList<>();
    private final Scene[] slots = new Scene[2];
    private final List<int[]> seen = new ArrayList<>();
    private long seed;

    // ---- the flat

    int write(int letter) {
        if (letter < 0 || letter > 255) {
            return OUTSIDE;
        }
        if (text.length() == 60) {
            return FULL;
        }
        text += (char) letter;
        return text.length();
    }

    int wipe() {
        int was = text.length();
        text = "";
        return was;
    }

    private static boolean canBeBegun(String start) {
        Matcher m = FLAT.matcher(start);
        if (!m.matches() && !m.hitEnd()) {
            return false;
        }
        return count(start, 'W') <= 6 && count(start, 'F') <= 5 && count(start, 'L') <= 4;
    }

    private static int count(String s, char c) {
        return (int) s.chars().filter(x -> x == c).count();
    }

    int fault() {
        for (int i = 0; i < text.length(); i++) {
            if (!canBeBegun(text.substring(0, i + 1))) {
                return i;
            }
        }
        return FLAT.matcher(text).matches() ? NONE : text.length();
    }

    int flat() {
        if (fault() != NONE) {
            return STATE;
        }
        tides = new ArrayList<>();
        finds = new ArrayList<>();
        larks = new ArrayList<>();
        for (int i = 0; i < 12; i++) {
            heights[i] = text.charAt(i + 1) - '0';
        }
        Matcher m = Pattern.compile("W(.)|F(.)(.)(.)|L(.)(.)").matcher(text.substring(13));
        while (m.find()) {
            if (m.group(1) != null) {
                tides.add(Integer.parseInt(m.group(1)));
            } else if (m.group(2) != null) {
                finds.add(new int[] {m.group(2).charAt(0) - 'a', Integer.parseInt(m.group(3)), Integer.parseInt(m.group(4))});
            } else {
                larks.add(new int[] {m.group(5).charAt(0) - 'a', Integer.parseInt(m.group(6))});
            }
        }
        scene = new Scene();
        for (int i = 0; i < larks.size(); i++) {
            scene.at[i] = larks.get(i)[0];
        }
        for (int i = 0; i < finds.size(); i++) {
            scene.lies[i] = finds.get(i)[0];
        }
        acts.clear();
        slots[0] = null;
        slots[1] = null;
        return tides.size() * 100 + finds.size() * 10 + larks.size();
    }

    private int water(int hour) {
        return tides.isEmpty() ? 0 : tides.get(hour % tides.size());
    }

    private boolean bare(int cell, int hour) {
        return heights[cell] >= water(hour);
    }

    private boolean stands(int lark, int cell, int hour) {
        return heights[cell] + larks.get(lark)[1] >= water(hour);
    }

    private boolean noLark(int lark) {
        return lark < 0 || lark >= larks.size();
    }

    private boolean noFind(int find) {
        return find < 0 || find >= finds.size();
    }

    int cell(int cell, int what) {
        if (cell < 0 || cell > 11) {
            return UNKNOWN;
        }
        if (what < 0 || what > 3) {
            return OUTSIDE;
        }
        if (what == 0) {
            return heights[cell];
        }
        if (what == 1) {
            return bare(cell, scene.hour) ? 1 : 0;
        }
        int bits = 0;
        for (int i = 0; i < (what == 2 ? finds.size() : larks.size()); i++) {
            bits += (what == 2 ? scene.lies[i] : scene.at[i]) == cell ? 1 << i : 0;
        }
        return bits;
    }

    private int carrier(Scene s, int find) {
        for (int i = 0; i < 4; i++) {
            if (s.bags.get(i).contains(find)) {
                return i;
            }
        }
        return NONE;
    }

    int find(int find, int what) {
        if (noFind(find)) {
            return UNKNOWN;
        }
        int carrier = carrier(scene, find);
        switch (what) {
            case 0: return scene.lies[find];
            case 1: return finds.get(find)[1];
            case 2: return finds.get(find)[2];
            case 3: return scene.lies[find] >= 0 ? 0 : carrier >= 0 ? 1 : 2;
            case 4: return carrier >= 0 ? carrier : scene.soldBy[find];
            default: return OUTSIDE;
        }
    }

    int lark(int lark, int what) {
        if (noLark(lark)) {
            return UNKNOWN;
        }
        switch (what) {
            case 0: return scene.at[lark];
            case 1: return larks.get(lark)[1];
            case 2: return scene.coins[lark];
            case 3: return scene.bags.get(lark).stream().mapToInt(f -> 1 << f).sum();
            case 4: return scene.drowned[lark] ? 1 : 0;
            case 5: return scene.walked[lark] ? 1 : 0;
            default: return OUTSIDE;
        }
    }

    // ---- acts, on any scene

    private static int go(int cell, int way) {
        int row = cell / 4 + (way == 3 ? -1 : way == 4 ? 1 : 0);
        int column = cell % 4 + (way == 1 ? -1 : way == 2 ? 1 : 0);
        return row < 0 || row > 2 || column < 0 || column > 3 ? NONE : row * 4 + column;
    }

    private boolean doWalk(Scene s, int lark, int way) {
        if (noLark(lark) || way < 1 || way > 4 || s.drowned[lark] || s.walked[lark]) {
            return false;
        }
        int to = go(s.at[lark], way);
        if (to == NONE || !stands(lark, to, s.hour)) {
            return false;
        }
        s.at[lark] = to;
        s.walked[lark] = true;
        return true;
    }

    private int doHour(Scene s) {
        s.hour++;
        s.walked = new boolean[4];
        int lost = 0;
        for (int i = 0; i < larks.size(); i++) {
            if (!s.drowned[i] && !stands(i, s.at[i], s.hour)) {
                s.drowned[i] = true;
                lost++;
                doPut(s, i);
            }
        }
        return lost;
    }

    private boolean doDig(Scene s, int lark, int find) {
        if (noLark(lark) || noFind(find) || s.drowned[lark] || s.bags.get(lark).size() > 1) {
            return false;
        }
        if (s.lies[find] != s.at[lark] || !bare(s.at[lark], s.hour)) {
            return false;
        }
        s.bags.get(lark).add(find);
        s.lies[find] = NONE;
        s.dug[find] = s.hour;
        return true;
    }

    private int doPut(Scene s, int lark) {
        int n = s.bags.get(lark).size();
        for (int find : s.bags.get(lark)) {
            s.lies[find] = s.at[lark];
        }
        s.bags.get(lark).clear();
        return n;
    }

    private boolean doSell(Scene s, int lark) {
        if (noLark(lark) || s.bags.get(lark).isEmpty() || s.at[lark] > 3) {
            return false;
        }
        for (int find : s.bags.get(lark)) {
            s.coins[lark] += worth(find, s.dug[find] == s.hour);
            s.soldBy[find] = lark;
        }
        s.bags.get(lark).clear();
        return true;
    }

    private int worth(int find, boolean fresh) {
        int age = finds.get(find)[1];
        int kind = finds.get(find)[2];
        return kind == 0 ? age : kind == 1 ? 0 : kind == 2 ? (fresh ? age + age : 0) : age / 2;
    }

    private void remember(Scene before) {
        acts.add(before);
        if (acts.size() > 14) {
            acts.remove(0);
        }
    }

    int walk(int lark, int way) {
        if (noLark(lark)) {
            return UNKNOWN;
        }
        if (way < 1 || way > 4) {
            return OUTSIDE;
        }
        Scene before = scene.copy();
        if (!doWalk(scene, lark, way)) {
            return STATE;
        }
        remember(before);
        return scene.at[lark];
    }

    int hour() {
        remember(scene.copy());
        return doHour(scene);
    }

    int dig(int lark, int find) {
        if (noLark(lark) || noFind(find)) {
            return UNKNOWN;
        }
        Scene before = scene.copy();
        if (!doDig(scene, lark, find)) {
            return STATE;
        }
        remember(before);
        return scene.bags.get(lark).size();
    }

    int put(int lark) {
        if (noLark(lark)) {
            return UNKNOWN;
        }
        if (scene.bags.get(lark).isEmpty()) {
            return STATE;
        }
        remember(scene.copy());
        return doPut(scene, lark);
    }

    int sell(int lark) {
        if (noLark(lark)) {
            return UNKNOWN;
        }
        Scene before = scene.copy();
        if (!doSell(scene, lark)) {
            return STATE;
        }
        remember(before);
        return scene.coins[lark];
    }

    int undo() {
        if (acts.isEmpty()) {
            return STATE;
        }
        scene = acts.remove(acts.size() - 1);
        return acts.size();
    }

    // ---- hours to come

    int bared(int n) {
        if (n < 0 || n > 20) {
            return OUTSIDE;
        }
        int bits = 0;
        for (int cell = 0; cell < 12; cell++) {
            bits += bare(cell, scene.hour + n) ? 1 << cell : 0;
        }
        return bits;
    }

    int flooded(int cell) {
        if (cell < 0 || cell > 11) {
            return UNKNOWN;
        }
        for (int n = 0; n <= 20; n++) {
            if ((bared(n) >> cell & 1) == 0) {
                return n;
            }
        }
        return NONE;
    }

    /** Cells behind some hours, by walking a lark in scenes. */
    private TreeSet<Integer> cellsFrom(Scene start, int lark, int hours) {
        TreeSet<Integer> cells = new TreeSet<>(List.of(start.at[lark]));
        Scene s = start.copy();
        for (int i = 0; i < hours; i++) {
            TreeSet<Integer> next = new TreeSet<>();
            for (int cell : cells) {
                for (int way = 0; way <= 4; way++) {
                    Scene t = s.copy();
                    t.at[lark] = cell;
                    doWalk(t, lark, way);
                    doHour(t);
                    if (!t.drowned[lark]) {
                        next.add(t.at[lark]);
                    }
                }
            }
            s.hour++;
            s.walked = new boolean[4];
            cells = next;
        }
        return cells;
    }

    int reach(int lark, int n) {
        if (noLark(lark)) {
            return UNKNOWN;
        }
        if (n < 0 || n > 9) {
            return OUTSIDE;
        }
        if (scene.drowned[lark]) {
            return STATE;
        }
        return cellsFrom(scene, lark, n).stream().mapToInt(c -> 1 << c).sum();
    }

    int home(int lark) {
        if (noLark(lark)) {
            return UNKNOWN;
        }
        if (scene.drowned[lark]) {
            return STATE;
        }
        for (int n = 0; n <= 20; n++) {
            if (cellsFrom(scene, lark, n).stream().anyMatch(c -> c < 4)) {
                return n;
            }
        }
        return NONE;
    }

    private boolean mayGet(int lark, int find, int n) {
        int cell = scene.lies[find];
        for (int h = 0; cell >= 0 && !scene.drowned[lark] && h <= n; h++) {
            if (!bare(cell, scene.hour + h) || !cellsFrom(scene, lark, h).contains(cell)) {
                continue;
            }
            Scene there = scene.copy();
            there.at[lark] = cell;
            there.hour += h;
            if (h > 0) {
                there.walked = new boolean[4];
            }
            for (int more = 0; h + more <= n; more++) {
                if (cellsFrom(there, lark, more).stream().anyMatch(c -> c < 4)) {
                    return true;
                }
            }
        }
        return false;
    }

    int gets(int lark, int n, int what) {
        if (noLark(lark)) {
            return UNKNOWN;
        }
        if (n < 1 || n > 9 || what < 0 || what > 1) {
            return OUTSIDE;
        }
        if (scene.drowned[lark]) {
            return STATE;
        }
        int which = NONE;
        int most = NONE;
        for (int find = 0; find < finds.size(); find++) {
            if (mayGet(lark, find, n) && worth(find, scene.lies[find] < 4) > most) {
                which = find;
                most = worth(find, scene.lies[find] < 4);
            }
        }
        return what == 0 ? which : most;
    }

    int judge(int n, long row) {
        if (n < 1 || n > 4 || row < 0 || String.valueOf(row).length() > 3 * n) {
            return OUTSIDE;
        }
        String told = String.format("%0" + 3 * n + "d", row);
        Scene s = scene.copy();
        for (int i = 0; i < n; i++) {
            if (!isSo(s, told.charAt(3 * i) - '0', told.charAt(3 * i + 1) - '0', told.charAt(3 * i + 2) - '0')) {
                return i;
            }
        }
        return NONE;
    }

    private boolean isSo(Scene s, int a, int b, int c) {
        if (a == 0 && b == 0 && c == 0) {
            doHour(s);
            return true;
        }
        return a == 1 && doWalk(s, b, c)
                || a == 2 && doDig(s, b, c)
                || a == 3 && b == 0 && doSell(s, c)
                || a == 4 && !noLark(b) && s.coins[b] >= c
                || a == 5 && b == 0 && !noLark(c) && !s.drowned[c];
    }

    // ---- which hour it was

    int see(int cell, int n, int bare) {
        if (cell < 0 || cell > 11) {
            return UNKNOWN;
        }
        if (n < 0 || n > 9 || bare < 0 || bare > 1) {
            return OUTSIDE;
        }
        if (seen.size() == 6) {
            return FULL;
        }
        seen.add(new int[] {cell, n, bare});
        return seen.size();
    }

    int unsee() {
        int was = seen.size();
        seen.clear();
        return was;
    }

    int phases() {
        int bits = 0;
        for (int hour = 0; hour < tides.size() || hour == 0; hour++) {
            int h = hour;
            bits += seen.stream().allMatch(s -> bare(s[0], h + s[1]) == (s[2] == 1)) ? 1 << hour : 0;
        }
        return bits;
    }

    // ---- shares, rests, chances

    private static long gcd(long a, long b) {
        return b == 0 ? a : gcd(b, a % b);
    }

    private static int part(long above, long below, boolean upper) {
        long g = gcd(above, below);
        return (int) ((upper ? above : below) / g);
    }

    /** Adds up what one lark brings over all orders: {sum, orders}. */
    private void overOrders(List<Integer> come, int lark, boolean[][] may, long[] sums) {
        if (come.size() == larks.size()) {
            int at = come.indexOf(lark);
            sums[0] += had(come.subList(0, at + 1), may) - had(come.subList(0, at), may);
            sums[1]++;
            return;
        }
        for (int i = 0; i < larks.size(); i++) {
            if (!come.contains(i)) {
                List<Integer> more = new ArrayList<>(come);
                more.add(i);
                overOrders(more, lark, may, sums);
            }
        }
    }

    private int had(List<Integer> come, boolean[][] may) {
        int n = 0;
        for (int find = 0; find < finds.size(); find++) {
            int f = find;
            n += come.stream().anyMatch(l -> may[l][f]) ? 1 : 0;
        }
        return n;
    }

    int share(int lark, boolean upper) {
        if (noLark(lark)) {
            return UNKNOWN;
        }
        boolean[][] may = new boolean[4][5];
        for (int l = 0; l < larks.size(); l++) {
            for (int f = 0; f < finds.size(); f++) {
                may[l][f] = mayGet(l, f, 6);
            }
        }
        long[] sums = new long[2];
        overOrders(new ArrayList<>(), lark, may, sums);
        return part(sums[0], sums[1], upper);
    }

    private int[] played(int one, int way, int other, int otherWay) {
        Scene s = scene.copy();
        doWalk(s, one, way);
        doWalk(s, other, otherWay);
        doHour(s);
        return new int[] {has(s, one, other), has(s, other, one)};
    }

    private int has(Scene s, int lark, int other) {
        if (s.drowned[lark]) {
            return 0;
        }
        int best = 0;
        if ((s.drowned[other] || s.at[other] != s.at[lark]) && bare(s.at[lark], s.hour)) {
            for (int f = 0; f < finds.size(); f++) {
                best = s.lies[f] == s.at[lark] ? Math.max(best, finds.get(f)[1]) : best;
            }
        }
        return 3 + best;
    }

    int rests(int one, int other, int what) {
        if (noLark(one) || noLark(other)) {
            return UNKNOWN;
        }
        if (one == other || what < 0 || what > 1) {
            return OUTSIDE;
        }
        if (scene.drowned[one] || scene.drowned[other]) {
            return STATE;
        }
        List<Integer> pairs = new ArrayList<>();
        for (int a = 0; a < 5; a++) {
            for (int b = 0; b < 5; b++) {
                int[] now = played(one, a, other, b);
                boolean rest = true;
                for (int w = 0; w < 5; w++) {
                    rest &= played(one, w, other, b)[0] <= now[0] && played(one, a, other, w)[1] <= now[1];
                }
                if (rest) {
                    pairs.add(10 * a + b);
                }
            }
        }
        return what == 0 ? pairs.size() : pairs.isEmpty() ? NONE : pairs.get(0);
    }

    int storms(int lark, int n, int x, boolean upper) {
        if (noLark(lark)) {
            return UNKNOWN;
        }
        if (n < 1 || n > 6 || x < 0 || x > 10) {
            return OUTSIDE;
        }
        if (scene.drowned[lark]) {
            return STATE;
        }
        long above = 0;
        for (int storms = 0; storms < 1 << n; storms++) {
            long weight = 1;
            boolean lives = true;
            for (int i = 0; i < n; i++) {
                int up = storms >> i & 1;
                weight *= up == 1 ? x : 10 - x;
                lives &= heights[scene.at[lark]] + larks.get(lark)[1] >= water(scene.hour + i + 1) + up;
            }
            above += lives ? weight : 0;
        }
        return part(above, Math.round(Math.pow(10, n)), upper);
    }

    long seed(long v) {
        long was = seed;
        seed = v;
        return was;
    }

    int springs(int m) {
        if (m < 1 || m > 30) {
            return OUTSIDE;
        }
        Scene s = scene.copy();
        int sum = 0;
        for (int i = 0; i < m; i++) {
            seed = seed * 6364136223846793005L + 1442695040888963407L;
            int lot = (int) (Long.parseLong(upper31(seed), 2) % 28);
            if (lot >= 20) {
                doHour(s);
            } else if (lot >= 16) {
                for (int f = 0; f < finds.size() && !doDig(s, lot - 16, f); f++) {
                    continue;
                }
            } else {
                doWalk(s, lot / 4, lot % 4 + 1);
            }
            for (int l = 0; l < larks.size(); l++) {
                sum += (s.drowned[l] ? 0 : 1) + s.bags.get(l).size();
            }
        }
        return sum;
    }

    private static String upper31(long v) {
        String bits = Long.toBinaryString(v);
        return ("0".repeat(64 - bits.length()) + bits).substring(0, 31);
    }

    // ---- slots

    int keep(int slot) {
        if (slot < 0 || slot > 1) {
            return UNKNOWN;
        }
        slots[slot] = scene.copy();
        return scene.hour;
    }

    int again(int slot) {
        if (slot < 0 || slot > 1) {
            return UNKNOWN;
        }
        if (slots[slot] == null) {
            return STATE;
        }
        scene = slots[slot].copy();
        acts.clear();
        return scene.hour;
    }

    private int findsThat(int state) {
        int bits = 0;
        for (int f = 0; f < finds.size(); f++) {
            bits += find(f, 3) == state ? 1 << f : 0;
        }
        return bits;
    }

    int count(int what) {
        int drowned = 0;
        int coins = 0;
        for (int i = 0; i < 4; i++) {
            drowned += scene.drowned[i] ? 1 << i : 0;
            coins += scene.coins[i];
        }
        int[] all = {text.length(), tides.size(), finds.size(), larks.size(), scene.hour, water(scene.hour),
            findsThat(0), findsThat(1), findsThat(2), drowned, coins, acts.size(), seen.size()};
        return what < 0 || what >= all.length ? OUTSIDE : all[what];
    }
}

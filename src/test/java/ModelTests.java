import java.util.ArrayList;
import java.util.Arrays;
import java.util.List;
import java.util.regex.Matcher;
import java.util.regex.Pattern;

/**
 * Runs of calls, drawn from a fixed seed, on the class and on a model that does everything the slow way: it rings
 * BELL by BELL, tries every set, every order and every amount. Each answer must be the model's.
 */
public final class ModelTests {
    private static final int RUNS = 4000;
    private static final int CALLS = 180;
    private static final int KINDS_OF_CALL = 25;
    private static final int BAD = -1, NO = -2, FULL = -3, NONE = -4;

    private static long seed = 20261119L;
    private static int wrong = 0;

    public static void main(String[] args) {
        int[] asked = new int[KINDS_OF_CALL];
        int[] told = new int[KINDS_OF_CALL];
        for (int run = 0; run < RUNS && wrong < 20; run++) {
            BlindLanterns x = new BlindLanterns();
            Model m = new Model();
            if (chance(90)) {
                writeAndLay(x, m, run);
            }
            for (int calls = 0; calls < CALLS && wrong < 20; calls++) {
                int call = draw(KINDS_OF_CALL);
                asked[call]++;
                if (oneCall(x, m, run, call) >= 0) {
                    told[call]++;
                }
            }
            compareAll(x, m, run);
        }
        for (int call = 0; call < KINDS_OF_CALL && wrong == 0; call++) {
            if (told[call] * 20 < asked[call]) {
                wrong++;
                System.out.println("call " + call + " is answered with a code nearly always, so these runs test little");
            }
        }
        System.out.println(wrong == 0 ? "all answers are the model's" : wrong + " answers are not the model's");
        if (wrong != 0) {
            System.exit(1);
        }
    }

    private static int draw(int bound) {
        seed = seed * 6364136223846793005L + 1442695040888963407L;
        return (int) ((seed >>> 33) % bound);
    }

    private static boolean chance(int percent) {
        return draw(100) < percent;
    }

    /** A number from 0 to most, one outside of it now and then. */
    private static int near(int most) {
        return chance(4) ? (chance(50) ? most + 1 : -1) : draw(most + 1);
    }

    private static int due(int run, String call, int got, int want) {
        if (got != want) {
            wrong++;
            System.out.println("run " + run + ": " + call + " answered " + got + ", the model " + want);
        }
        return got;
    }

    // ---- texts

    private static void writeAndLay(BlindLanterns x, Model m, int run) {
        String text = someText();
        for (int at = 0; at < text.length(); at += 8) {
            int n = Math.min(8, text.length() - at);
            long v = draw(1000);
            for (int i = 0; i < n; i++) {
                v = v << 8 | text.charAt(at + i);
            }
            due(run, "write(" + n + ", " + v + ")", x.write(n, v), m.write(n, v));
        }
        due(run, "fault of " + text, x.fault(), m.fault());
        due(run, "lay of " + text, x.lay(), m.lay());
    }

    /** Mostly a TEXT that can be LAID. */
    private static String someText() {
        StringBuilder text = new StringBuilder();
        int men = 2 + draw(5);
        for (int i = 0; i < men; i++) {
            text.append('m').append(chance(50) ? 0 : draw(3)).append(';');
        }
        int items = draw(18);
        for (int i = 0; i < items; i++) {
            addItem(text, chance(1) ? 7 : men);
        }
        if (chance(12)) {
            text.setCharAt(draw(text.length()), "m0;,9x\u00ff".charAt(draw(7)));
        }
        if (chance(3)) {
            text.deleteCharAt(text.length() - 1);
        }
        return text.toString();
    }

    private static void addItem(StringBuilder text, int posts) {
        int over = chance(1) ? 1 : 0;
        int kind = draw(20);
        if (kind < 9) {
            int oil = chance(60) ? draw(12) : draw(41) + over;
            int lit = (oil > 0 && chance(75) ? 1 : 0) + over;
            text.append('o').append(draw(posts)).append(',').append(two(oil)).append(',').append(lit).append(';');
        } else if (kind < 11) {
            text.append('e').append(draw(posts)).append(';');
        } else if (kind < 13) {
            text.append('s').append(two(draw(6) + over)).append(';');
        } else if (kind < 17) {
            int bell = (chance(70) ? 1 + draw(15) : 1 + draw(60)) + over;
            text.append('d').append(two(bell)).append(',').append(draw(posts)).append(';');
        } else if (kind < 19) {
            int from = draw(20);
            text.append('u').append(two(from)).append(',').append(two(from + draw(10) - over)).append(';');
        } else if (chance(10)) {
            text.append('m').append(draw(3)).append(';');
        }
    }

    private static String two(int number) {
        return number < 10 && chance(10) ? "0" + number : "" + number;
    }

    // ---- calls

    private static int oneCall(BlindLanterns x, Model m, int run, int call) {
        int last = m.men() - 1;
        int a = near(last);
        int b = near(last);
        int n = near(chance(50) ? 8 : 60);
        if (call < 9) {
            return stateCall(x, m, run, call, a, b);
        }
        if (call < 19) {
            return askingCall(x, m, run, call, a, n);
        }
        int part = near(1);
        int set = chance(70) ? 1 << draw(m.men()) : near((1 << m.men()) - 1);
        int span = near(chance(50) ? 4 : 20);
        switch (call) {
            case 19:
                int p = near(last + 1) - 1;
                return due(run, "keepLit(" + set + ", " + span + ", " + p + ")", x.keepLit(set, span, p), m.keepLit(set, span, p));
            case 20:
                return due(run, "oil(" + set + ", " + span + ")", x.oil(set, span), m.oil(set, span));
            case 21:
                int z = near(9999);
                return due(run, "night(" + z + ", " + n + ", " + part + ")", x.night(z, n, part), m.night(z, n, part));
            case 22:
                return due(run, "keep()", x.keep(), m.keep());
            case 23:
                return chance(60) ? due(run, "back()", x.back(), m.back()) : 0;
            default:
                int what = near(7);
                return due(run, "count(" + what + ")", x.count(what), m.count(what));
        }
    }

    private static int stateCall(BlindLanterns x, Model m, int run, int call, int a, int b) {
        switch (call) {
            case 0:
                int bytes = near(8);
                long v = seed ^ seed << 29;
                return due(run, "write(" + bytes + ", " + v + ")", x.write(bytes, v), m.write(bytes, v));
            case 1:
                return due(run, "fault()", x.fault(), m.fault());
            case 2:
                if (chance(90)) {
                    return 0;
                }
                due(run, "wipe()", x.wipe(), m.wipe());
                writeAndLay(x, m, run);
                return 0;
            case 3:
                int drops = near(40);
                return due(run, "fill(" + a + ", " + drops + ")", x.fill(a, drops), m.fill(a, drops));
            case 4:
            case 5:
                return due(run, "light(" + a + ")", x.light(a), m.light(a));
            case 6:
                return due(run, "change(" + a + ", " + b + ")", x.change(a, b), m.change(a, b));
            case 7:
                int rung = near(chance(85) ? 4 : 99);
                return due(run, "bells(" + rung + ")", x.bells(rung), m.bells(rung));
            default:
                return due(run, "undo()", x.undo(), m.undo());
        }
    }

    private static int askingCall(BlindLanterns x, Model m, int run, int call, int a, int n) {
        int what = near(3);
        int part = near(1);
        switch (call) {
            case 9:
                return due(run, "lantern(" + a + ", " + what + ")", x.lantern(a, what), m.lantern(a, what));
            case 10:
                return due(run, "post(" + a + ", " + what + ")", x.post(a, what), m.post(a, what));
            case 11:
                return due(run, "warm(" + n + ", " + a + ")", x.warm(n, a), m.warm(n, a));
            case 12:
                return due(run, "dark(" + n + ")", x.dark(n), m.dark(n));
            case 13:
                return due(run, "walk(" + a + ", " + n + ")", x.walk(a, n), m.walk(a, n));
            case 14:
                boolean warm = m.isWarmAsTold(a, n) != chance(10);
                return due(run, "seen(" + a + ", " + n + ", " + warm + ")", x.seen(a, n, warm), m.seen(a, n, warm));
            case 15:
                due(run, "fits()", x.fits(), m.fits());
                return chance(12) ? due(run, "forget()", x.forget(), m.forget()) : 0;
            case 16:
                return due(run, "odds(" + a + ", " + part + ")", x.odds(a, part), m.odds(a, part));
            case 17:
                return due(run, "letOut(" + part + ")", x.letOut(part), m.letOut(part));
            default:
                return due(run, "coldHands()", x.coldHands(), m.coldHands());
        }
    }

    private static void compareAll(BlindLanterns x, Model m, int run) {
        for (int what = 0; what < 8; what++) {
            due(run, "count(" + what + ") at the end", x.count(what), m.count(what));
        }
        for (int i = 0; i < m.men(); i++) {
            for (int what = 0; what < 4; what++) {
                due(run, "lantern(" + i + ", " + what + ") at the end", x.lantern(i, what), m.lantern(i, what));
                due(run, "post(" + i + ", " + what + ") at the end", x.post(i, what), m.post(i, what));
            }
        }
    }

    // ---- the model

    /** What stands at one time, by POST, and a BELL that rings. */
    private static final class State {
        int[] lanternAt;
        int[] oil;
        boolean[] lit;
        int bell;

        State copy() {
            State s = new State();
            s.lanternAt = lanternAt.clone();
            s.oil = oil.clone();
            s.lit = lit.clone();
            s.bell = bell;
            return s;
        }

        boolean isLitAt(int p) {
            return lit[lanternAt[p]];
        }

        int litOnes() {
            int sum = 0;
            for (boolean one : lit) {
                sum += one ? 1 : 0;
            }
            return sum;
        }

        int darkPosts() {
            int posts = 0;
            for (int p = 0; p < lit.length; p++) {
                posts += isLitAt(p) ? 0 : 1 << p;
            }
            return posts;
        }
    }

    /** What a TEXT tells, read with regular expressions. */
    private static final class Tale {
        final List<Integer> kinds = new ArrayList<>();
        final int[] oil = new int[6];
        final boolean[] lit = new boolean[6];
        final boolean[] cheese = new boolean[6];
        final List<int[]> draughts = new ArrayList<>();
        int step = 1;
        int[] sun = {1, 0};
        int fault = NONE;

        Tale(String text) {
            Matcher item = Pattern.compile("([a-z])(\\d{1,2}(?:,\\d{1,2})*);", Pattern.DOTALL).matcher(text);
            int at = 0;
            while (at < text.length()) {
                if (!item.find(at) || item.start() != at || !take(item.group(1), numbers(item.group(2)))) {
                    fault = at;
                    return;
                }
                at = item.end();
            }
        }

        private static int[] numbers(String parts) {
            return Arrays.stream(parts.split(",")).mapToInt(Integer::parseInt).toArray();
        }

        private boolean take(String letter, int[] a) {
            int needed = "m e s".contains(letter) ? 1 : "d u".contains(letter) ? 2 : 3;
            if (!"moesdu".contains(letter) || a.length != needed) {
                return false;
            }
            if (letter.equals("m")) {
                kinds.add(a[0]);
                return a[0] <= 2 && kinds.size() <= 6;
            }
            if (letter.equals("s")) {
                step = a[0];
                return a[0] <= 5;
            }
            if (letter.equals("d")) {
                draughts.add(a);
                return a[0] >= 1 && a[0] <= 60 && a[1] <= 5 && draughts.size() <= 6;
            }
            if (letter.equals("u")) {
                sun = a;
                return a[0] <= a[1] && a[1] <= 60;
            }
            if (a[0] >= kinds.size()) {
                return false;
            }
            boolean isCheese = letter.equals("e");
            cheese[a[0]] = isCheese;
            oil[a[0]] = isCheese ? 0 : a[1];
            lit[a[0]] = !isCheese && a[2] == 1;
            return isCheese || a[1] <= 40 && a[2] <= 1 && (a[2] == 0 || a[1] > 0);
        }

        boolean canBeLaid() {
            return fault == NONE && kinds.size() >= 2 && draughts.stream().allMatch(d -> d[1] < kinds.size());
        }

        State first() {
            State s = new State();
            s.lanternAt = new int[kinds.size()];
            for (int p = 0; p < kinds.size(); p++) {
                s.lanternAt[p] = p;
            }
            s.oil = Arrays.copyOf(oil, kinds.size());
            s.lit = Arrays.copyOf(lit, kinds.size());
            return s;
        }

        /** The next BELL; besides what is told there is a DRAUGHT at a POST (-1: none). */
        void ring(State s, int besides) {
            int men = kinds.size();
            s.bell++;
            int[] moved = new int[men];
            for (int p = 0; p < men; p++) {
                moved[(p + step) % men] = s.lanternAt[p];
            }
            s.lanternAt = moved;
            for (int[] d : draughts) {
                if (d[0] == s.bell) {
                    s.lit[moved[d[1]]] = false;
                }
            }
            if (besides >= 0) {
                s.lit[moved[besides]] = false;
            }
            for (int l = 0; l < men; l++) {
                if (s.lit[l]) {
                    s.oil[l]--;
                    s.lit[l] = s.oil[l] > 0;
                }
            }
        }

        State behind(State from, int n) {
            State s = from.copy();
            for (int k = 0; k < n; k++) {
                ring(s, -1);
            }
            return s;
        }

        boolean isWarm(State s, int p, int kind) {
            boolean warm = s.isLitAt(p) || sun[0] <= s.bell && s.bell <= sun[1];
            return kind == 0 ? warm : kind == 2 && !warm;
        }
    }

    private static final class Model {
        private String text = "";
        private Tale tale = new Tale("m0;m0;m0;o0,5,1;o1,9,0;");
        private State now = tale.first();
        private final List<int[]> felt = new ArrayList<>();
        private final List<State> undone = new ArrayList<>();
        private final List<State> kept = new ArrayList<>();

        int men() {
            return tale.kinds.size();
        }

        private boolean there(int i) {
            return 0 <= i && i < men();
        }

        private static boolean in(int n, int from, int to) {
            return from <= n && n <= to;
        }

        int write(int n, long v) {
            if (!in(n, 1, 8)) {
                return BAD;
            }
            if (text.length() + n > 300) {
                return FULL;
            }
            for (int i = n - 1; i >= 0; i--) {
                text += (char) (v >> 8 * i & 255);
            }
            return text.length();
        }

        int wipe() {
            int was = text.length();
            text = "";
            return was;
        }

        int fault() {
            return new Tale(text).fault;
        }

        int lay() {
            Tale next = new Tale(text);
            if (!next.canBeLaid()) {
                return NO;
            }
            tale = next;
            now = tale.first();
            felt.clear();
            undone.clear();
            kept.clear();
            return men();
        }

        int lantern(int l, int what) {
            if (!there(l) || !in(what, 0, 3)) {
                return BAD;
            }
            int p = 0;
            while (now.lanternAt[p] != l) {
                p++;
            }
            return new int[] {p, now.oil[l], now.lit[l] ? 1 : 0, tale.cheese[l] ? 1 : 0}[what];
        }

        int post(int p, int what) {
            if (!there(p) || !in(what, 0, 2)) {
                return BAD;
            }
            return new int[] {tale.kinds.get(p), now.lanternAt[p], warm(0, p)}[what];
        }

        private void remember() {
            undone.add(now.copy());
            if (undone.size() > 8) {
                undone.remove(0);
            }
        }

        int fill(int l, int n) {
            if (!there(l) || !in(n, 1, 40)) {
                return BAD;
            }
            if (tale.cheese[l] || now.oil[l] + n > 99) {
                return NO;
            }
            remember();
            return now.oil[l] += n;
        }

        int light(int l) {
            if (!there(l)) {
                return BAD;
            }
            if (now.lit[l] || now.oil[l] == 0) {
                return NO;
            }
            remember();
            now.lit[l] = true;
            return now.litOnes();
        }

        int change(int p, int q) {
            if (!there(p) || !there(q) || p == q) {
                return BAD;
            }
            remember();
            int was = now.lanternAt[p];
            now.lanternAt[p] = now.lanternAt[q];
            now.lanternAt[q] = was;
            return now.lanternAt[p];
        }

        int bells(int n) {
            if (!in(n, 1, 99)) {
                return BAD;
            }
            if (now.bell + n > 9999) {
                return NO;
            }
            remember();
            now = tale.behind(now, n);
            return now.bell;
        }

        int undo() {
            if (undone.isEmpty()) {
                return NO;
            }
            now = undone.remove(undone.size() - 1);
            return undone.size();
        }

        int warm(int n, int p) {
            if (!in(n, 0, 60) || !there(p)) {
                return BAD;
            }
            return tale.isWarm(tale.behind(now, n), p, tale.kinds.get(p)) ? 1 : 0;
        }

        int dark(int n) {
            return in(n, 0, 60) ? tale.behind(now, n).darkPosts() : BAD;
        }

        int walk(int p, int n) {
            if (!there(p) || !in(n, 0, 60)) {
                return BAD;
            }
            int sum = 0;
            for (int k = 0; k <= n; k++) {
                sum += tale.behind(now, k).isLitAt((p + k) % men()) ? 1 : 0;
            }
            return sum;
        }

        int seen(int p, int n, boolean warm) {
            if (!there(p) || !in(n, 0, 60)) {
                return BAD;
            }
            if (felt.size() == 10) {
                return FULL;
            }
            felt.add(new int[] {p, n, warm ? 1 : 0});
            return felt.size();
        }

        boolean isWarmAsTold(int p, int n) {
            return there(p) && in(n, 0, 60) && tale.isWarm(tale.behind(tale.first(), n), p, tale.kinds.get(p));
        }

        int forget() {
            int were = felt.size();
            felt.clear();
            return were;
        }

        /** A DRAUGHT besides at a BELL (0: none) and a POST, a MAN who is COLD (-1: none besides). */
        private boolean asSeen(State first, int bell, int p, int cold) {
            for (int[] one : felt) {
                State s = first.copy();
                while (s.bell < one[1]) {
                    tale.ring(s, s.bell + 1 == bell ? p : -1);
                }
                int kind = one[0] == cold ? 1 : tale.kinds.get(one[0]);
                if (tale.isWarm(s, one[0], kind) != (one[2] == 1)) {
                    return false;
                }
            }
            return true;
        }

        private int setsWith(int l) {
            int sets = 0;
            for (int set = 0; set < 1 << men(); set++) {
                State s = tale.first();
                boolean allHaveOil = true;
                for (int i = 0; i < men(); i++) {
                    s.lit[i] = (set >> i & 1) == 1;
                    allHaveOil &= !s.lit[i] || s.oil[i] > 0;
                }
                if (allHaveOil && (l < 0 || s.lit[l]) && asSeen(s, 0, 0, -1)) {
                    sets++;
                }
            }
            return sets;
        }

        int fits() {
            return setsWith(-1);
        }

        int odds(int l, int part) {
            if (!there(l) || !in(part, 0, 1)) {
                return BAD;
            }
            int above = setsWith(l);
            int below = setsWith(-1);
            if (below == 0) {
                return NONE;
            }
            for (int by = 64; by > 1; by--) {
                if (above % by == 0 && below % by == 0) {
                    above /= by;
                    below /= by;
                }
            }
            return part == 0 ? above : below;
        }

        int letOut(int what) {
            if (!in(what, 0, 1)) {
                return BAD;
            }
            int first = NONE;
            int sum = 0;
            for (int bell = 60; bell >= 1; bell--) {
                for (int p = men() - 1; p >= 0; p--) {
                    if (asSeen(tale.first(), bell, p, -1)) {
                        first = 10 * bell + p;
                        sum++;
                    }
                }
            }
            return what == 0 ? sum : first;
        }

        int coldHands() {
            int hands = asSeen(tale.first(), 0, 0, -1) ? 64 : 0;
            for (int man = 0; man < men(); man++) {
                hands += asSeen(tale.first(), 0, 0, man) ? 1 << man : 0;
            }
            return hands;
        }

        private boolean keeps(State from, int set, int n) {
            for (int k = 0; k <= n; k++) {
                if ((tale.behind(from, k).darkPosts() & set) != 0) {
                    return false;
                }
            }
            return true;
        }

        /** Tries the orders in the order of what is at POST 0, then 1, ..; null if none keeps the set. */
        private int[] firstWay(int[] order, int fixed, int set, int n) {
            if (fixed == order.length) {
                State s = now.copy();
                s.lanternAt = order.clone();
                return keeps(s, set, n) ? order : null;
            }
            for (int l = 0; l < order.length; l++) {
                int lantern = l;
                if (Arrays.stream(order, 0, fixed).noneMatch(one -> one == lantern)) {
                    int[] next = order.clone();
                    next[fixed] = l;
                    int[] way = firstWay(next, fixed + 1, set, n);
                    if (way != null) {
                        return way;
                    }
                }
            }
            return null;
        }

        int keepLit(int set, int n, int p) {
            if (!in(set, 0, (1 << men()) - 1) || !in(n, 0, 20) || !in(p, -1, men() - 1)) {
                return BAD;
            }
            int[] way = firstWay(new int[men()], 0, set, n);
            if (way == null) {
                return NONE;
            }
            int elsewhere = 0;
            for (int i = 0; i < men(); i++) {
                elsewhere += way[i] == now.lanternAt[i] ? 0 : 1;
            }
            return p < 0 ? elsewhere : way[p];
        }

        /** More oil never harms, and what one LANTERN gets does nothing to another: so each is cut down by itself. */
        int oil(int set, int n) {
            if (!in(set, 0, (1 << men()) - 1) || !in(n, 0, 20)) {
                return BAD;
            }
            State s = now.copy();
            int[] given = new int[men()];
            for (int l = 0; l < men(); l++) {
                given[l] = 22;
                s.oil[l] += 22;
            }
            if (!keeps(s, set, n)) {
                return NONE;
            }
            int sum = 0;
            for (int l = 0; l < men(); l++) {
                for (; given[l] > 0; given[l]--) {
                    State less = s.copy();
                    less.oil[l]--;
                    if (!keeps(less, set, n)) {
                        break;
                    }
                    s = less;
                }
                sum += given[l];
            }
            return sum;
        }

        int night(int z, int n, int what) {
            if (!in(z, 0, 9999) || !in(n, 1, 60) || !in(what, 0, 1)) {
                return BAD;
            }
            State s = now.copy();
            for (int k = 1; k <= n; k++) {
                long x = 7919L * z + 6151L * k + 1L;
                long drawn = x * x % 65521L;
                tale.ring(s, drawn / 8 % 4 == 0 ? (int) (drawn % men()) : -1);
            }
            return what == 0 ? s.litOnes() : Arrays.stream(s.oil).sum();
        }

        int keep() {
            if (kept.size() == 2) {
                return FULL;
            }
            kept.add(now.copy());
            return kept.size();
        }

        int back() {
            if (kept.isEmpty()) {
                return NO;
            }
            now = kept.remove(kept.size() - 1);
            undone.clear();
            return kept.size();
        }

        int count(int what) {
            if (!in(what, 0, 7)) {
                return BAD;
            }
            return new int[] {men(), now.bell, now.litOnes(), Arrays.stream(now.oil).sum(), felt.size(), undone.size(),
                kept.size(), text.length()}[what];
        }
    }
}

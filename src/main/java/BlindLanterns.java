/**
 * The relay of the blind lanterns: men who keep a pass by lanterns that they cannot see. What a call has to answer
 * is told in ../shared/DOC.md; the words in its capitals are the words used here.
 *
 * The one thought behind all of it: a lit LANTERN stays lit until its oil is burnt or a DRAUGHT comes to it, and
 * which BELL that is can be reckoned at once from the POST where it is now. So nothing is rung step by step.
 */
public final class BlindLanterns {
    public static final int BAD = -1, NO = -2, FULL = -3, NONE = -4;

    private static final int MOST_MEN = 6;
    private static final int MOST_BYTES = 300;
    private static final int MOST_DRAUGHTS = 6;
    private static final int MOST_SEEN = 10;
    private static final int MOST_UNDONE = 8;
    private static final int MOST_KEPT = 2;
    private static final int MOST_OIL_TOLD = 40;
    private static final int MOST_OIL_GIVEN = 40;
    private static final int MOST_OIL = 99;
    private static final int MOST_BELLS_RUNG = 99;
    private static final int MOST_BELL = 9999;
    private static final int LAST_BELL = 60;
    private static final int MOST_BELLS_KEPT = 20;
    private static final int MOST_Z = 9999;
    private static final int COLD = 1;
    private static final int MOTH = 2;
    private static final int NOBODY = -1;
    /** Farther off than any BELL that is ever asked for. */
    private static final int NEVER = 1000000;

    private final Row text = new Row(MOST_BYTES);
    private final Reader reader = new Reader();
    private final Felt felt = new Felt();
    private final Shelf undone = new Shelf(MOST_UNDONE);
    private final Shelf kept = new Shelf(MOST_KEPT);
    private final Pass pass = new Pass();
    private final Pass nightPass = new Pass();
    /** By POST: behind how many BELLS what is there now comes to its first DRAUGHT. */
    private final Row draughtIn = new Row(MOST_MEN);
    /** By POST at BELL 0: behind how many BELLS what is there then is lit no more. */
    private final Row litFor = new Row(MOST_MEN);
    private int length;
    private Told told = new Told();
    private Told draft = new Told();

    public BlindLanterns() {
        told.addMan(0);
        told.addMan(0);
        told.addMan(0);
        told.tellOil(0, 5, 1);
        told.tellOil(1, 9, 0);
        pass.begin(told);
    }

    // ---- passes

    public int write(int n, long v) {
        if (n < 1 || n > 8) {
            return BAD;
        }
        if (length + n > MOST_BYTES) {
            return FULL;
        }
        for (int left = n - 1; left >= 0; left--) {
            text.set(length, (int) (v >>> (8 * left)) & 255);
            length++;
        }
        return length;
    }

    public int wipe() {
        int was = length;
        length = 0;
        return was;
    }

    public int fault() {
        return reader.firstFault(text, length, draft);
    }

    public int lay() {
        if (reader.firstFault(text, length, draft) != NONE || !draft.canBeLaid()) {
            return NO;
        }
        Told before = told;
        told = draft;
        draft = before;
        pass.begin(told);
        felt.clear();
        undone.clear();
        kept.clear();
        return told.men;
    }

    public int lantern(int l, int what) {
        if (!isMan(l)) {
            return BAD;
        }
        switch (what) {
            case 0:
                return pass.postOf.get(l);
            case 1:
                return pass.oilOf.get(l);
            case 2:
                return pass.isLit(l) ? 1 : 0;
            case 3:
                return told.isCheese(l) ? 1 : 0;
            default:
                return BAD;
        }
    }

    public int post(int p, int what) {
        if (!isMan(p)) {
            return BAD;
        }
        switch (what) {
            case 0:
                return told.kinds.get(p);
            case 1:
                return pass.lanternAt(p);
            case 2:
                return warm(0, p);
            default:
                return BAD;
        }
    }

    // ---- what is done

    public int fill(int l, int n) {
        if (!isMan(l) || n < 1 || n > MOST_OIL_GIVEN) {
            return BAD;
        }
        int full = pass.oilOf.get(l) + n;
        if (told.isCheese(l) || full > MOST_OIL) {
            return NO;
        }
        undone.put(pass);
        pass.oilOf.set(l, full);
        return full;
    }

    public int light(int l) {
        if (!isMan(l)) {
            return BAD;
        }
        if (pass.isLit(l) || pass.oilOf.get(l) == 0) {
            return NO;
        }
        undone.put(pass);
        pass.lit |= 1 << l;
        return pass.litCount();
    }

    public int change(int p, int q) {
        if (!isMan(p) || !isMan(q) || p == q) {
            return BAD;
        }
        undone.put(pass);
        int fromP = pass.lanternAt(p);
        int fromQ = pass.lanternAt(q);
        pass.postOf.set(fromP, q);
        pass.postOf.set(fromQ, p);
        return fromQ;
    }

    public int bells(int n) {
        if (n < 1 || n > MOST_BELLS_RUNG) {
            return BAD;
        }
        if (pass.bell + n > MOST_BELL) {
            return NO;
        }
        undone.put(pass);
        told.reckonDraughts(pass.bell, draughtIn);
        pass.goOn(told, n, draughtIn);
        return pass.bell;
    }

    public int undo() {
        return undone.takeLast(pass) ? undone.count : NO;
    }

    // ---- behind bells

    public int warm(int n, int p) {
        if (!isLastBell(n) || !isMan(p)) {
            return BAD;
        }
        told.reckonDraughts(pass.bell, draughtIn);
        boolean lit = isLitBehind(n, p);
        return told.isWarm(told.kinds.get(p), lit, pass.bell + n) ? 1 : 0;
    }

    public int dark(int n) {
        if (!isLastBell(n)) {
            return BAD;
        }
        told.reckonDraughts(pass.bell, draughtIn);
        int posts = 0;
        for (int p = 0; p < told.men; p++) {
            if (!isLitBehind(n, p)) {
                posts |= 1 << p;
            }
        }
        return posts;
    }

    public int walk(int p, int n) {
        if (!isMan(p) || !isLastBell(n)) {
            return BAD;
        }
        told.reckonDraughts(pass.bell, draughtIn);
        int counted = 0;
        for (int behind = 0; behind <= n; behind++) {
            if (isLitBehind(behind, told.round(p + behind))) {
                counted++;
            }
        }
        return counted;
    }

    // ---- what was felt

    public int seen(int p, int n, boolean warm) {
        if (!isMan(p) || !isLastBell(n)) {
            return BAD;
        }
        if (felt.count >= MOST_SEEN) {
            return FULL;
        }
        felt.add(p, n, warm);
        return felt.count;
    }

    public int forget() {
        int were = felt.count;
        felt.clear();
        return were;
    }

    public int fits() {
        return setsWith(0);
    }

    public int odds(int l, int part) {
        if (!isMan(l) || part < 0 || part > 1) {
            return BAD;
        }
        int below = setsWith(0);
        if (below == 0) {
            return NONE;
        }
        int above = setsWith(1 << l);
        int common = commonDivisor(above, below);
        if (common < 1) {
            return NONE;
        }
        return (part == 0 ? above : below) / common;
    }

    public int letOut(int what) {
        if (what < 0 || what > 1) {
            return BAD;
        }
        told.reckonLit(told.lit, litFor);
        int draughts = 0;
        for (int bell = 1; bell <= LAST_BELL; bell++) {
            for (int p = 0; p < told.men; p++) {
                if (!fitsWithDraught(bell, p)) {
                    continue;
                }
                if (what == 1) {
                    return 10 * bell + p;
                }
                draughts++;
            }
        }
        return what == 1 ? NONE : draughts;
    }

    public int coldHands() {
        told.reckonLit(told.lit, litFor);
        int hands = felt.agrees(told, litFor, NOBODY) ? 64 : 0;
        for (int man = 0; man < told.men; man++) {
            if (felt.agrees(told, litFor, man)) {
                hands |= 1 << man;
            }
        }
        return hands;
    }

    // ---- posts that are kept

    public int keepLit(int set, int n, int p) {
        if (!isSet(set) || n < 0 || n > MOST_BELLS_KEPT || p < -1 || p >= told.men) {
            return BAD;
        }
        told.reckonDraughts(pass.bell, draughtIn);
        long finished = waysToFinish(set, n);
        if ((finished & 1L) == 0) {
            return NONE;
        }
        int used = 0;
        int elsewhere = 0;
        for (int at = 0; at < told.men; at++) {
            int l = firstThatFinishes(used, at, told.bellsNeeded(at, set, n), finished);
            if (at == p) {
                return l;
            }
            if (pass.postOf.get(l) != at) {
                elsewhere++;
            }
            used |= 1 << l;
        }
        return elsewhere;
    }

    public int oil(int set, int n) {
        if (!isSet(set) || n < 0 || n > MOST_BELLS_KEPT) {
            return BAD;
        }
        told.reckonDraughts(pass.bell, draughtIn);
        int given = 0;
        for (int p = 0; p < told.men; p++) {
            int needed = told.bellsNeeded(p, set, n);
            int l = pass.lanternAt(p);
            if (needed > 0 && (!pass.isLit(l) || draughtIn.get(p) < needed)) {
                return NONE;
            }
            given += Math.max(0, needed - pass.oilOf.get(l));
        }
        return given;
    }

    public int night(int z, int n, int what) {
        if (z < 0 || z > MOST_Z || n < 1 || n > LAST_BELL || what < 0 || what > 1) {
            return BAD;
        }
        told.reckonDraughts(pass.bell, draughtIn);
        for (int k = 1; k <= n; k++) {
            int draw = drawOf(z, k);
            if (draw / 8 % 4 == 0) {
                int from = told.postBefore(told.round(draw), k);
                draughtIn.set(from, Math.min(k, draughtIn.get(from)));
            }
        }
        nightPass.copy(pass);
        nightPass.goOn(told, n, draughtIn);
        return what == 0 ? nightPass.litCount() : nightPass.oilInAll();
    }

    public int keep() {
        if (kept.count >= MOST_KEPT) {
            return FULL;
        }
        kept.put(pass);
        return kept.count;
    }

    public int back() {
        if (!kept.takeLast(pass)) {
            return NO;
        }
        undone.clear();
        return kept.count;
    }

    public int count(int what) {
        switch (what) {
            case 0:
                return told.men;
            case 1:
                return pass.bell;
            case 2:
                return pass.litCount();
            case 3:
                return pass.oilInAll();
            case 4:
                return felt.count;
            case 5:
                return undone.count;
            case 6:
                return kept.count;
            case 7:
                return length;
            default:
                return BAD;
        }
    }

    // ---- what the calls share

    /** MEN, POSTS and LANTERNS are as many, so one test serves for a number of any of them. */
    private boolean isMan(int i) {
        return i >= 0 && i < told.men;
    }

    private boolean isSet(int set) {
        return set >= 0 && set < 1 << told.men;
    }

    private static boolean isLastBell(int n) {
        return n >= 0 && n <= LAST_BELL;
    }

    /** Takes it that draughtIn is reckoned from the BELL that it is. */
    private boolean isLitBehind(int n, int p) {
        int from = told.postBefore(p, n);
        return n < pass.litFor(pass.lanternAt(from), draughtIn.get(from));
    }

    /** How many sets fit that hold at least the LANTERNS in must. */
    private int setsWith(int must) {
        int oiled = told.withOil();
        int sets = 0;
        for (int set = 0; set <= oiled; set++) {
            if ((set & ~oiled) != 0 || (must & ~set) != 0) {
                continue;
            }
            told.reckonLit(set, litFor);
            if (felt.agrees(told, litFor, NOBODY)) {
                sets++;
            }
        }
        return sets;
    }

    /** Takes it that litFor is reckoned as told, and leaves it so. */
    private boolean fitsWithDraught(int bell, int p) {
        int from = told.postBefore(p, bell);
        int asTold = litFor.get(from);
        litFor.set(from, Math.min(bell, asTold));
        boolean agrees = felt.agrees(told, litFor, NOBODY);
        litFor.set(from, asTold);
        return agrees;
    }

    /**
     * A bit for each set of LANTERNS: whether, these being at the first POSTS in some way, the others can be at the
     * POSTS behind so that all that is asked of these holds. With it the first way is found without a step back.
     */
    private long waysToFinish(int set, int n) {
        int all = (1 << told.men) - 1;
        long finished = 1L << all;
        for (int used = all - 1; used >= 0; used--) {
            int at = Integer.bitCount(used);
            if (firstThatFinishes(used, at, told.bellsNeeded(at, set, n), finished) != NONE) {
                finished |= 1L << used;
            }
        }
        return finished;
    }

    /** The first LANTERN not used that would be lit long enough from POST at on and leaves a way to finish. */
    private int firstThatFinishes(int used, int at, int needed, long finished) {
        for (int l = 0; l < told.men; l++) {
            int bit = 1 << l;
            boolean isFree = (used & bit) == 0 && (finished >>> (used | bit) & 1L) == 1L;
            if (isFree && pass.litFor(l, draughtIn.get(at)) >= needed) {
                return l;
            }
        }
        return NONE;
    }

    private static int drawOf(int z, int k) {
        long x = 7919L * z + 6151L * k + 1;
        return (int) (x * x % 65521);
    }

    private static int commonDivisor(int a, int b) {
        int big = a;
        int small = b;
        for (int turns = 0; turns < 64 && small > 0; turns++) {
            int rest = big % small;
            big = small;
            small = rest;
        }
        return big;
    }

    /** A row of numbers that is 0 outside of itself, so that no index can ever be a wrong one. */
    private static final class Row {
        private final int[] cells;

        Row(int size) {
            cells = new int[size < 0 ? 0 : size];
        }

        int get(int i) {
            return i >= 0 && i < cells.length ? cells[i] : 0;
        }

        void set(int i, int value) {
            if (i >= 0 && i < cells.length) {
                cells[i] = value;
            }
        }

        void copy(Row from) {
            for (int i = 0; i < cells.length; i++) {
                cells[i] = from.get(i);
            }
        }

        void clear() {
            for (int i = 0; i < cells.length; i++) {
                cells[i] = 0;
            }
        }
    }

    /** What a TEXT tells. */
    private static final class Told {
        private final Row kinds = new Row(MOST_MEN);
        private final Row oilAtFirst = new Row(MOST_MEN);
        private final Row draughtBells = new Row(MOST_DRAUGHTS);
        private final Row draughtPosts = new Row(MOST_DRAUGHTS);
        private int men;
        private int lit;
        private int cheeses;
        private int step = 1;
        private int draughts;
        private int sunFrom = NEVER;
        private int sunTo = NEVER;

        void clear() {
            kinds.clear();
            oilAtFirst.clear();
            men = 0;
            lit = 0;
            cheeses = 0;
            step = 1;
            draughts = 0;
            sunFrom = NEVER;
            sunTo = NEVER;
        }

        boolean addMan(int kind) {
            if (men >= MOST_MEN || kind < 0 || kind > MOTH) {
                return false;
            }
            kinds.set(men, kind);
            men++;
            return true;
        }

        boolean tellOil(int l, int n, int isLit) {
            if (l < 0 || l >= men || n < 0 || n > MOST_OIL_TOLD || isLit < 0 || isLit > 1 || isLit > n) {
                return false;
            }
            int bit = 1 << l;
            oilAtFirst.set(l, n);
            lit = isLit == 1 ? lit | bit : lit & ~bit;
            cheeses &= ~bit;
            return true;
        }

        boolean tellCheese(int l) {
            if (!tellOil(l, 0, 0)) {
                return false;
            }
            cheeses |= 1 << l;
            return true;
        }

        boolean tellStep(int posts) {
            if (posts < 0 || posts > 5) {
                return false;
            }
            step = posts;
            return true;
        }

        boolean addDraught(int bell, int p) {
            if (draughts >= MOST_DRAUGHTS || bell < 1 || bell > LAST_BELL || p < 0 || p >= MOST_MEN) {
                return false;
            }
            draughtBells.set(draughts, bell);
            draughtPosts.set(draughts, p);
            draughts++;
            return true;
        }

        boolean tellSun(int from, int to) {
            if (from < 0 || from > to || to > LAST_BELL) {
                return false;
            }
            sunFrom = from;
            sunTo = to;
            return true;
        }

        boolean canBeLaid() {
            for (int i = 0; i < draughts; i++) {
                if (draughtPosts.get(i) >= men) {
                    return false;
                }
            }
            return men >= 2;
        }

        boolean isCheese(int l) {
            return (cheeses >> l & 1) == 1;
        }

        int withOil() {
            int set = 0;
            for (int l = 0; l < men; l++) {
                if (oilAtFirst.get(l) > 0) {
                    set |= 1 << l;
                }
            }
            return set;
        }

        int round(int p) {
            return men < 1 ? 0 : Math.floorMod(p, men);
        }

        /** The POST at which that is now which will be at p behind n BELLS. */
        int postBefore(int p, int n) {
            return round(p - n * step);
        }

        boolean isWarm(int kind, boolean isLit, int bell) {
            boolean toTrue = isLit || bell >= sunFrom && bell <= sunTo;
            return kind != COLD && toTrue != (kind == MOTH);
        }

        void reckonDraughts(int bell, Row draughtIn) {
            for (int p = 0; p < men; p++) {
                draughtIn.set(p, NEVER);
            }
            for (int i = 0; i < draughts; i++) {
                int ahead = draughtBells.get(i) - bell;
                if (ahead >= 1) {
                    int from = postBefore(draughtPosts.get(i), ahead);
                    draughtIn.set(from, Math.min(ahead, draughtIn.get(from)));
                }
            }
        }

        /** As if just the LANTERNS of a set were lit when it was LAID: each is at the POST of its number then. */
        void reckonLit(int set, Row litFor) {
            reckonDraughts(0, litFor);
            for (int l = 0; l < men; l++) {
                boolean isLit = (set >> l & 1) == 1;
                litFor.set(l, isLit ? Math.min(oilAtFirst.get(l), litFor.get(l)) : 0);
            }
        }

        /** For how many BELLS, BEHIND 0 counted too, what is at p now must be lit to keep a set of POSTS. */
        int bellsNeeded(int p, int set, int n) {
            for (int behind = n; behind >= 0; behind--) {
                if ((set >> round(p + behind * step) & 1) == 1) {
                    return behind + 1;
                }
            }
            return 0;
        }
    }

    /** Reads a TEXT, ITEM by ITEM. */
    private static final class Reader {
        private static final int MOST_NUMBERS = 3;
        private final Row numbers = new Row(MOST_NUMBERS);
        private int count;

        int firstFault(Row text, int length, Told told) {
            told.clear();
            int place = 0;
            for (int items = 0; items < length && place < length; items++) {
                int next = splitItem(text, place, length);
                if (next == NONE || !tell(text.get(place), told)) {
                    return place;
                }
                place = next;
            }
            return NONE;
        }

        /** Where the next ITEM begins; NONE if this one is not made as an ITEM is. */
        private int splitItem(Row text, int place, int length) {
            count = 0;
            int value = 0;
            int figures = 0;
            for (int i = place + 1; i < length; i++) {
                int sign = text.get(i);
                if (sign >= '0' && sign <= '9' && figures < 2) {
                    value = 10 * value + sign - '0';
                    figures++;
                    continue;
                }
                if (sign != ',' && sign != ';' || figures == 0 || count >= MOST_NUMBERS) {
                    return NONE;
                }
                numbers.set(count, value);
                count++;
                if (sign == ';') {
                    return i + 1;
                }
                value = 0;
                figures = 0;
            }
            return NONE;
        }

        private boolean tell(int letter, Told told) {
            int first = numbers.get(0);
            int second = numbers.get(1);
            switch (letter) {
                case 'm':
                    return count == 1 && told.addMan(first);
                case 'o':
                    return count == 3 && told.tellOil(first, second, numbers.get(2));
                case 'e':
                    return count == 1 && told.tellCheese(first);
                case 's':
                    return count == 1 && told.tellStep(first);
                case 'd':
                    return count == 2 && told.addDraught(first, second);
                case 'u':
                    return count == 2 && told.tellSun(first, second);
                default:
                    return false;
            }
        }
    }

    /** The pass at one time: where each LANTERN is, its oil, which are lit (bits), the BELL. */
    private static final class Pass {
        private final Row postOf = new Row(MOST_MEN);
        private final Row oilOf = new Row(MOST_MEN);
        private int men;
        private int lit;
        private int bell;

        void begin(Told told) {
            men = told.men;
            for (int l = 0; l < men; l++) {
                postOf.set(l, l);
            }
            oilOf.copy(told.oilAtFirst);
            lit = told.lit;
            bell = 0;
        }

        void copy(Pass from) {
            men = from.men;
            postOf.copy(from.postOf);
            oilOf.copy(from.oilOf);
            lit = from.lit;
            bell = from.bell;
        }

        boolean isLit(int l) {
            return (lit >> l & 1) == 1;
        }

        int lanternAt(int p) {
            for (int l = 0; l < men; l++) {
                if (postOf.get(l) == p) {
                    return l;
                }
            }
            return 0;
        }

        int litCount() {
            return Integer.bitCount(lit);
        }

        int oilInAll() {
            int sum = 0;
            for (int l = 0; l < men; l++) {
                sum += oilOf.get(l);
            }
            return sum;
        }

        /** Behind how many BELLS a LANTERN is lit no more, if its first DRAUGHT comes behind so many. */
        int litFor(int l, int draughtIn) {
            return isLit(l) ? Math.min(oilOf.get(l), draughtIn) : 0;
        }

        /** The DRAUGHT comes ahead of the burning: at the BELL that blows a LANTERN out it burns nothing. */
        void goOn(Told told, int bells, Row draughtIn) {
            for (int l = 0; l < men; l++) {
                int p = postOf.get(l);
                int draught = draughtIn.get(p);
                if (isLit(l)) {
                    int burnt = Math.min(bells, Math.min(oilOf.get(l), draught - 1));
                    boolean isOut = bells >= litFor(l, draught);
                    oilOf.set(l, oilOf.get(l) - burnt);
                    lit = isOut ? lit & ~(1 << l) : lit;
                }
                postOf.set(l, told.round(p + bells * told.step));
            }
            bell += bells;
        }
    }

    /** Passes as they were, the latest on top; of a full shelf the oldest one falls off. */
    private static final class Shelf {
        private final Pass[] places;
        private int count;

        Shelf(int size) {
            places = new Pass[size < 0 ? 0 : size];
            for (int i = 0; i < places.length; i++) {
                places[i] = new Pass();
            }
        }

        void clear() {
            count = 0;
        }

        void put(Pass pass) {
            if (count >= places.length) {
                dropOldest();
            }
            if (count >= 0 && count < places.length && places[count] != null) {
                places[count].copy(pass);
                count++;
            }
        }

        boolean takeLast(Pass pass) {
            int last = count - 1;
            if (last < 0 || last >= places.length || places[last] == null) {
                return false;
            }
            pass.copy(places[last]);
            count = last;
            return true;
        }

        /** The row of the oldest one is used again behind the others, so that nothing new is made. */
        private void dropOldest() {
            if (places.length == 0) {
                return;
            }
            Pass oldest = places[0];
            for (int i = 1; i < places.length; i++) {
                places[i - 1] = places[i];
            }
            places[places.length - 1] = oldest;
            count--;
        }
    }

    /** What is SEEN. */
    private static final class Felt {
        private final Row posts = new Row(MOST_SEEN);
        private final Row bells = new Row(MOST_SEEN);
        private final Row warmths = new Row(MOST_SEEN);
        private int count;

        void clear() {
            count = 0;
        }

        void add(int p, int n, boolean isWarm) {
            posts.set(count, p);
            bells.set(count, n);
            warmths.set(count, isWarm ? 1 : 0);
            count++;
        }

        /** Whether all is as SEEN, if LANTERNS are lit for so long, and one MAN is COLD (or NOBODY is besides). */
        boolean agrees(Told told, Row litFor, int coldMan) {
            for (int i = 0; i < count; i++) {
                int p = posts.get(i);
                int n = bells.get(i);
                boolean isLit = n < litFor.get(told.postBefore(p, n));
                int kind = p == coldMan ? COLD : told.kinds.get(p);
                if (told.isWarm(kind, isLit, n) != (warmths.get(i) == 1)) {
                    return false;
                }
            }
            return true;
        }
    }
}

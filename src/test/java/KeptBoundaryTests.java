import java.math.BigInteger;
import java.util.function.ToIntFunction;

/** The boundary cases of what is kept: section 4 of the document, promises 22 to 27; a method for each sentence, in its order. */
public final class KeptBoundaryTests extends Checks {
    private static final int[] NO_BELLS_KEPT = {-1, 21, 60, Integer.MIN_VALUE, Integer.MAX_VALUE};

    public static void main(String[] args) {
        keepFirstAndLastBell();
        keepDraughts();
        keepFirstWay();
        keepElsewhere();
        keepNone();
        oilFirstAndLastBell();
        oilWhomever();
        oilNone();
        nightLeastAndMost();
        nightChangesNothing();
        nightDraws();
        nightBesides();
        keptTwo();
        badNumbers();
        badAheadOfTheOthers();
        nothingChangesThen();
        keepLit();
        oil();
        night();
        keep();
        back();
        backRefused();
        count();
        countMost();
        end("the boundary cases of what is kept hold");
    }

    private static void noWay(BlindLanterns x, int set, int n) {
        for (int p = -1; p < x.count(0); p++) {
            due("keepLit(" + set + ", " + n + ", " + p + ")", x.keepLit(set, n, p), NONE);
        }
    }

    // ---- section 4

    private static void keepFirstAndLastBell() {
        sentence("of all ways to have the LANTERNS at POSTS now such that of a set of POSTS none would be DARK BEHIND 0, 1, .. n (0 to 20) BELLS");
        BlindLanterns x = laid(men(3) + "o0,20,1;o1,21,1;o2,1,1;s0;");
        wayIs(x, 1, 0, 0, 1, 2);
        wayIs(x, 2, 0, 0, 1, 2);
        wayIs(x, 4, 1, 0, 2, 1);
        wayIs(x, 1, 19, 0, 1, 2);
        wayIs(x, 1, 20, 1, 0, 2);
        wayIs(x, 4, 20, 0, 2, 1);
        noWay(x, 3, 20);
        wayIs(x, 3, 19, 0, 1, 2);
        wayIs(x, 7, 0, 0, 1, 2);
        noWay(x, 7, 1);
        wayIs(x, 0, 0, 0, 1, 2);
        wayIs(x, 0, 20, 0, 1, 2);
        BlindLanterns round = laid(men(3) + "o0,1,1;o1,20,1;o2,21,1;");
        wayIs(round, 1, 0, 0, 1, 2);
        wayIs(round, 1, 1, 0, 1, 2);
        wayIs(round, 1, 2, 0, 1, 2);
        noWay(round, 1, 3);
        wayIs(round, 2, 1, 1, 0, 2);
    }

    private static void keepDraughts() {
        sentence("none would be DARK BEHIND 0, 1, .. n (0 to 20) BELLS the first");
        BlindLanterns x = laid(men(2) + "o0,40,1;o1,40,1;s0;d20,1;d60,0;");
        wayIs(x, 3, 19, 0, 1);
        noWay(x, 3, 20);
        noWay(x, 2, 20);
        wayIs(x, 1, 20, 0, 1);
        x.bells(1);
        wayIs(x, 3, 18, 0, 1);
        noWay(x, 2, 19);
        x.bells(19);
        x.light(1);
        wayIs(x, 3, 19, 0, 1);
        BlindLanterns late = laid(men(2) + "o0,40,0;o1,40,0;s0;d60,1;");
        ringTo(late, 40);
        late.light(0);
        late.light(1);
        wayIs(late, 3, 19, 0, 1);
        noWay(late, 2, 20);
        wayIs(late, 1, 20, 0, 1);
        BlindLanterns round = laid(men(3) + "o0,40,1;o1,40,1;o2,9,0;d3,2;");
        wayIs(round, 4, 0, 0, 2, 1);
        noWay(round, 4, 2);
        wayIs(round, 1, 1, 0, 2, 1);
        noWay(round, 1, 4);
    }

    private static void keepFirstWay() {
        sentence("the first (by what is at POST 0, then 1, ..)");
        BlindLanterns all = laid(men(6) + "o0,40,1;o1,40,1;o2,40,1;o3,40,1;o4,40,1;o5,40,1;");
        wayIs(all, 63, 20, 0, 1, 2, 3, 4, 5);
        all.bells(1);
        wayIs(all, 63, 20, 0, 1, 2, 3, 4, 5);
        BlindLanterns one = laid(men(6) + "o5,40,1;s0;");
        wayIs(one, 1, 20, 5, 0, 1, 2, 3, 4);
        wayIs(one, 2, 20, 0, 5, 1, 2, 3, 4);
        wayIs(one, 16, 20, 0, 1, 2, 3, 5, 4);
        wayIs(one, 32, 20, 0, 1, 2, 3, 4, 5);
        BlindLanterns last = laid(men(6) + "o0,40,1;s0;");
        wayIs(last, 32, 20, 1, 2, 3, 4, 5, 0);
        wayIs(last, 1, 20, 0, 1, 2, 3, 4, 5);
        BlindLanterns needed = laid(men(3) + "o0,5,1;o1,9,1;s0;");
        wayIs(needed, 5, 4, 0, 2, 1);
        wayIs(needed, 6, 4, 2, 0, 1);
        noWay(needed, 6, 5);
        BlindLanterns scarce = laid(men(3) + "o0,9,1;o1,5,1;s0;");
        wayIs(scarce, 5, 4, 0, 2, 1);
        scarce.bells(4);
        wayIs(scarce, 1, 1, 0, 1, 2);
        noWay(scarce, 3, 1);
        wayIs(scarce, 2, 1, 1, 0, 2);
    }

    private static void keepElsewhere() {
        sentence("the LANTERN at a POST; how many POSTS there are at which another one is than now");
        BlindLanterns x = laid(men(6) + "o5,40,1;s0;");
        due("keepLit(0, 0, -1): as it is", x.keepLit(0, 0, -1), 0);
        due("keepLit(1, 0, -1): all are elsewhere", x.keepLit(1, 0, -1), 6);
        due("keepLit(16, 0, -1): two at the least", x.keepLit(16, 0, -1), 2);
        x.change(0, 5);
        due("keepLit(0, 0, -1): the first way is another", x.keepLit(0, 0, -1), 2);
        due("keepLit(1, 0, -1)", x.keepLit(1, 0, -1), 5);
        BlindLanterns two = laid(men(2) + "o1,40,1;");
        due("keepLit(1, 0, -1) of two", two.keepLit(1, 0, -1), 2);
        due("keepLit(2, 0, -1) of two", two.keepLit(2, 0, -1), 0);
    }

    private static void keepNone() {
        sentence("at which another one is than now; none.");
        noWay(laid(men(2)), 1, 0);
        noWay(laid(men(2) + "o0,40,0;o1,40,0;"), 2, 0);
        noWay(laid(men(6) + "o0,40,1;o1,40,1;o2,40,1;o3,40,1;o4,40,1;e5;"), 63, 0);
        noWay(laid(men(2) + "o0,1,1;o1,1,1;s0;"), 1, 1);
        noWay(laid(men(2) + "u0,60;"), 1, 0);
        wayIs(laid(men(6) + "o0,40,1;o1,40,1;o2,40,1;o3,40,1;o4,40,1;e5;"), 62, 0, 5, 0, 1, 2, 3, 4);
        wayIs(laid(men(2)), 0, 20, 0, 1);
    }

    private static void oilFirstAndLastBell() {
        sentence("OIL: how much has to be given now at the least, to whichever, so that of a set of POSTS none would be DARK BEHIND 0, 1, .. n BELLS");
        BlindLanterns x = laid(men(3) + "o0,1,1;o1,20,1;o2,21,1;s0;");
        for (int n = 0; n <= 20; n++) {
            due("oil(1, " + n + ")", x.oil(1, n), n);
            due("oil(2, " + n + ")", x.oil(2, n), n == 20 ? 1 : 0);
            due("oil(4, " + n + ")", x.oil(4, n), 0);
            due("oil(7, " + n + ")", x.oil(7, n), n == 20 ? 21 : n);
            due("oil(0, " + n + ")", x.oil(0, n), 0);
        }
        BlindLanterns six = laid(men(6) + "o0,1,1;o1,1,1;o2,1,1;o3,1,1;o4,1,1;o5,1,1;");
        due("oil(63, 20): the most", six.oil(63, 20), 120);
        due("oil(63, 0)", six.oil(63, 0), 0);
        BlindLanterns full = laid(men(2) + "o0,40,1;s0;");
        full.fill(0, 40);
        full.fill(0, 19);
        due("oil(1, 20) of a full one", full.oil(1, 20), 0);
    }

    private static void oilWhomever() {
        sentence("to whichever, so that of a set of POSTS none would be DARK");
        BlindLanterns x = laid(men(6) + "o0,1,1;o1,1,1;o2,1,1;o3,1,1;o4,1,1;o5,1,1;");
        due("oil(1, 1): who comes there", x.oil(1, 1), 1);
        due("oil(1, 2)", x.oil(1, 2), 1 + 2);
        due("oil(1, 5): each comes there once", x.oil(1, 5), 1 + 2 + 3 + 4 + 5);
        due("oil(1, 6): the first again", x.oil(1, 6), 1 + 2 + 3 + 4 + 5 + 6);
        due("oil(1, 7)", x.oil(1, 7), 7 + 2 + 3 + 4 + 5 + 6);
        due("oil(32, 1): POST 4's", x.oil(32, 1), 1);
        BlindLanterns dark = laid(men(3) + "o0,9,1;");
        due("oil(1, 0)", dark.oil(1, 0), 0);
        due("oil(1, 1): a dark one comes", dark.oil(1, 1), NONE);
    }

    private static void oilNone() {
        sentence("none would be DARK BEHIND 0, 1, .. n BELLS; none.");
        BlindLanterns x = laid(men(3) + "o0,9,1;o1,9,0;e2;s0;d3,0;d60,0;");
        due("oil(2, 0): oil lights nothing", x.oil(2, 0), NONE);
        due("oil(4, 0): a cheese", x.oil(4, 0), NONE);
        due("oil(1, 2)", x.oil(1, 2), 0);
        due("oil(1, 3): the draught", x.oil(1, 3), NONE);
        due("oil(3, 0): one of two", x.oil(3, 0), NONE);
        due("oil(0, 20): of no post", x.oil(0, 20), 0);
        x.bells(3);
        x.light(0);
        due("oil(1, 20): the draught has been", x.oil(1, 20), 14);
        ringTo(x, 39);
        x.fill(0, 1);
        x.light(0);
        due("oil(1, 20): BELL 59", x.oil(1, 20), 20);
        x.bells(1);
        x.fill(0, 1);
        x.light(0);
        due("oil(1, 19): BELL 59", x.oil(1, 19), 19);
        due("oil(1, 20): BELL 60", x.oil(1, 20), NONE);
    }

    private static void nightLeastAndMost() {
        sentence("A NIGHT by z (0 to 9999) of n (1 to 60) BELLS from now on");
        String text = men(6) + "o0,40,1;o1,40,1;o2,40,1;o3,40,1;o4,40,1;o5,3,1;s0;";
        for (int z : new int[] {0, 1, 2, 999, 1000, 5000, 9998, 9999}) {
            for (int n : new int[] {1, 2, 3, 39, 40, 41, 59, 60}) {
                due("night(" + z + ", " + n + ", 0)", laid(text).night(z, n, 0), new Night(6, 0).of(z, n).lit());
                due("night(" + z + ", " + n + ", 1)", laid(text).night(z, n, 1), new Night(6, 0).of(z, n).oil());
            }
        }
        BlindLanterns x = laid(men(2) + "o0,40,1;s0;");
        for (int n : new int[] {0, -1, 61, Integer.MIN_VALUE, Integer.MAX_VALUE}) {
            due("night(0, " + n + ", 0)", x.night(0, n, 0), BAD);
        }
        for (int z : new int[] {-1, 10000, 65521, Integer.MIN_VALUE, Integer.MAX_VALUE}) {
            due("night(" + z + ", 1, 0)", x.night(z, 1, 0), BAD);
        }
    }

    private static void nightChangesNothing() {
        sentence("(nothing changes by it)");
        for (int what = 0; what <= 1; what++) {
            int asked = what;
            int answer = lively().night(9999, 60, asked);
            changesNothing("night(9999, 60, " + what + ")", KeptBoundaryTests::lively, x -> x.night(9999, 60, asked), answer);
        }
        BlindLanterns late = laid(men(2) + "o0,40,0;s0;");
        ringTo(late, 9999);
        late.light(0);
        due("night(0, 1, 1): past BELL 9999", late.night(0, 1, 1), 39);
        due("count(1)", late.count(1), 9999);
        due("count(3)", late.count(3), 40);
    }

    /** With all posts as many as the draws modulo of them, and steps that go round. */
    private static void nightDraws() {
        sentence("at the k-th of them (1 first), DRAW being (x times x) modulo 65521, x 7919 z, 6151 k and 1 together, there is "
            + "a DRAUGHT besides at POST DRAW modulo how many there are, if (DRAW by 8, cut) modulo 4 is 0");
        for (int men = 2; men <= 6; men++) {
            for (int step = 0; step <= 5; step++) {
                StringBuilder text = new StringBuilder(men(men) + "s" + step + ";");
                for (int l = 0; l < men; l++) {
                    text.append('o').append(l).append(l == 5 ? ",3,1;" : ",40,1;");
                }
                BlindLanterns x = laid(text.toString());
                for (int z = 0; z <= 9999; z += 1111) {
                    for (int n = 1; n <= 60; n = 2 * n + 1) {
                        due("night(" + z + ", " + n + ", 0) of " + text, x.night(z, n, 0), new Night(men, step).of(z, n).lit());
                        due("night(" + z + ", " + n + ", 1) of " + text, x.night(z, n, 1), new Night(men, step).of(z, n).oil());
                    }
                }
            }
        }
    }

    private static void nightBesides() {
        sentence("there is a DRAUGHT besides");
        BlindLanterns told = laid(men(2) + "o0,40,1;o1,40,1;s0;d1,0;d2,1;");
        due("night(0, 1, 0): those told blow, too", told.night(0, 1, 0), 1);
        due("night(0, 1, 1)", told.night(0, 1, 1), 79);
        due("night(0, 2, 0)", told.night(0, 2, 0), 0);
        BlindLanterns x = laid(men(2) + "o0,40,1;o1,40,1;s0;");
        due("night(0, 2, 0): no draw blows", x.night(0, 2, 0), 2);
        due("night(0, 3, 0): the third does, at POST 1", x.night(0, 3, 0), 1);
        due("night(0, 3, 1): ahead of the burning", x.night(0, 3, 1), 37 + 38);
        x.bells(10);
        due("night(0, 2, 0): the first is the next bell", x.night(0, 2, 0), 2);
        due("night(0, 3, 0)", x.night(0, 3, 0), 1);
        due("night(0, 3, 1)", x.night(0, 3, 1), 27 + 28);
        due("night(0, 60, 0): how many are lit", x.night(0, 60, 0), 0);
        BlindLanterns dark = laid(men(2) + "o0,40,0;o1,40,0;");
        due("night(0, 60, 0)", dark.night(0, 60, 0), 0);
        due("night(0, 60, 1): how much oil all have", dark.night(0, 60, 1), 80);
    }

    /** A NIGHT rung bell by bell: the oil is 40 of each, 3 of LANTERN 5. */
    private static final class Night {
        private final int step;
        private final int[] oil;
        private final boolean[] isLit;

        Night(int men, int step) {
            this.step = step;
            oil = new int[men];
            isLit = new boolean[men];
            for (int l = 0; l < men; l++) {
                oil[l] = l == 5 ? 3 : 40;
                isLit[l] = true;
            }
        }

        Night of(int z, int n) {
            int men = oil.length;
            for (int k = 1; k <= n; k++) {
                BigInteger x = BigInteger.valueOf(z).multiply(BigInteger.valueOf(7919))
                    .add(BigInteger.valueOf(k).multiply(BigInteger.valueOf(6151))).add(BigInteger.ONE);
                int drawn = x.multiply(x).mod(BigInteger.valueOf(65521)).intValueExact();
                for (int l = 0; l < men; l++) {
                    boolean isBlown = drawn / 8 % 4 == 0 && (l + step * k) % men == drawn % men;
                    isLit[l] &= !isBlown;
                    oil[l] -= isLit[l] ? 1 : 0;
                    isLit[l] &= oil[l] > 0;
                }
            }
            return this;
        }

        int lit() {
            int sum = 0;
            for (boolean one : isLit) {
                sum += one ? 1 : 0;
            }
            return sum;
        }

        int oil() {
            int sum = 0;
            for (int one : oil) {
                sum += one;
            }
            return sum;
        }
    }

    private static void keptTwo() {
        sentence("KEPT is the pass as it is: 2 at most.");
        BlindLanterns x = laid(men(2) + "o0,40,1;");
        due("keep()", x.keep(), 1);
        x.bells(3);
        due("keep()", x.keep(), 2);
        String second = passOf(x);
        x.bells(4);
        due("keep(): a third", x.keep(), FULL);
        due("keep(): again", x.keep(), FULL);
        due("count(6)", x.count(6), 2);
        due("back()", x.back(), 1);
        same("back(): the third is not kept", passOf(x), second);
        due("keep(): room again", x.keep(), 2);
        due("back()", x.back(), 1);
        due("back()", x.back(), 0);
        due("count(1)", x.count(1), 0);
        due("back()", x.back(), NO);
    }

    private static void badNumbers() {
        sentence("BAD: a number is none that is told (MEN, POSTS, LANTERNS: such as there are).");
        for (int men = 2; men <= 6; men++) {
            StringBuilder text = new StringBuilder(men(men));
            for (int l = 0; l < men; l++) {
                text.append('o').append(l).append(",9,1;");
            }
            BlindLanterns x = laid(text.toString());
            int last = men - 1;
            int[] good = {x.lantern(last, 0), x.post(last, 0), x.warm(0, last), x.walk(last, 0), x.odds(last, 0), x.keepLit(0, 0, last),
                x.keepLit((1 << men) - 1, 0, -1), x.oil((1 << men) - 1, 0), x.seen(last, 0, true), x.fill(last, 1), x.change(0, last)};
            for (int i = 0; i < good.length; i++) {
                due("call " + i + " with the last of " + men, good[i] >= 0 ? 1 : 0, 1);
            }
            due("light() of the last of " + men, x.light(last), NO);
            for (int i : new int[] {men, 6, 32, 64, -1, Integer.MIN_VALUE, Integer.MAX_VALUE}) {
                int[] bad = {x.lantern(i, 0), x.post(i, 0), x.warm(0, i), x.walk(i, 0), x.odds(i, 0), x.seen(i, 0, true), x.fill(i, 1),
                    x.change(0, i), x.change(i, 0), x.light(i), i == -1 ? BAD : x.keepLit(0, 0, i)};
                for (int call = 0; call < bad.length; call++) {
                    due("call " + call + " with " + i + " of " + men, bad[call], BAD);
                }
            }
            for (int set : new int[] {1 << men, 64, -1, Integer.MIN_VALUE, Integer.MAX_VALUE}) {
                due("keepLit(" + set + ", 0, 0) of " + men, x.keepLit(set, 0, 0), BAD);
                due("oil(" + set + ", 0) of " + men, x.oil(set, 0), BAD);
            }
        }
    }

    private static void badAheadOfTheOthers() {
        sentence("NO: not as things stand. NONE: there is none. FULL. Of several the first in this order, whatever the order at a call");
        BlindLanterns x = lively();
        due("write(0, 0) of a full text", x.write(0, 0), BAD);
        due("write(1, 0) of a full text", x.write(1, 0), FULL);
        due("fill(2, 41) of a cheese", x.fill(2, 41), BAD);
        due("fill(2, 40) of a cheese", x.fill(2, 40), NO);
        due("fill(3, 41) above 99", x.fill(3, 41), BAD);
        due("fill(3, 40) above 99", x.fill(3, 40), NO);
        due("seen(4, 0, true) of ten", x.seen(4, 0, true), BAD);
        due("seen(3, 61, true) of ten", x.seen(3, 61, true), BAD);
        due("seen(3, 60, true) of ten", x.seen(3, 60, true), FULL);
        due("odds(4, 0) of no set", x.odds(4, 0), BAD);
        due("odds(3, 2) of no set", x.odds(3, 2), BAD);
        due("odds(3, 1) of no set", x.odds(3, 1), NONE);
        due("letOut(2) of no draught", x.letOut(2), BAD);
        due("letOut(1) of no draught", x.letOut(1), NONE);
        due("keepLit(16, 20, -1) of no way", x.keepLit(16, 20, -1), BAD);
        due("keepLit(15, 21, -1) of no way", x.keepLit(15, 21, -1), BAD);
        due("keepLit(15, 20, 4) of no way", x.keepLit(15, 20, 4), BAD);
        due("keepLit(15, 20, -2) of no way", x.keepLit(15, 20, -2), BAD);
        due("keepLit(15, 20, -1) of no way", x.keepLit(15, 20, -1), NONE);
        due("oil(16, 20)", x.oil(16, 20), BAD);
        due("oil(15, 21)", x.oil(15, 21), BAD);
        due("oil(15, 20)", x.oil(15, 20), NONE);
        due("keep() of two", x.keep(), FULL);
    }

    /** A pass in which nearly all that can be refused is: ten SEEN, no set, two KEPT, a cheese, 80 oil, a full text with a fault. */
    private static BlindLanterns lively() {
        BlindLanterns x = laid("m0;m1;m2;m0;o0,9,1;o1,20,1;e2;o3,40,0;d3,1;u2,4;");
        for (int i = 0; i < 9; i++) {
            x.seen(0, i, true);
        }
        x.seen(3, 9, true);
        x.fill(3, 40);
        x.keep();
        x.bells(2);
        x.light(3);
        x.keep();
        x.change(0, 2);
        x.bells(1);
        put(x, "s1;".repeat((297 - x.count(7)) / 3) + "s6;");
        return x;
    }

    private static void nothingChangesThen() {
        sentence("whatever the order at a call; nothing changes then.");
        refused("write(1, 0)", x -> x.write(1, 0), FULL);
        refused("write(9, 0)", x -> x.write(9, 0), BAD);
        refused("lay()", BlindLanterns::lay, NO);
        refused("fill(2, 1)", x -> x.fill(2, 1), NO);
        refused("fill(3, 21)", x -> x.fill(3, 21), NO);
        refused("fill(3, 0)", x -> x.fill(3, 0), BAD);
        refused("fill(4, 1)", x -> x.fill(4, 1), BAD);
        refused("light(2)", x -> x.light(2), NO);
        refused("light(3)", x -> x.light(3), NO);
        refused("light(4)", x -> x.light(4), BAD);
        refused("change(1, 1)", x -> x.change(1, 1), BAD);
        refused("change(1, 4)", x -> x.change(1, 4), BAD);
        refused("change(-1, 1)", x -> x.change(-1, 1), BAD);
        refused("bells(0)", x -> x.bells(0), BAD);
        refused("bells(100)", x -> x.bells(100), BAD);
        refused("seen(0, 0, false)", x -> x.seen(0, 0, false), FULL);
        refused("seen(4, 0, false)", x -> x.seen(4, 0, false), BAD);
        refused("keep()", BlindLanterns::keep, FULL);
        refused("keepLit(15, 20, 0)", x -> x.keepLit(15, 20, 0), NONE);
        refused("oil(15, 20)", x -> x.oil(15, 20), NONE);
        refused("night(10000, 1, 0)", x -> x.night(10000, 1, 0), BAD);
        refused("odds(0, 0)", x -> x.odds(0, 0), NONE);
        refused("letOut(1)", x -> x.letOut(1), NONE);
        refused("count(8)", x -> x.count(8), BAD);
        BlindLanterns asked = lively();
        String before = answersOf(asked);
        same("calls that only ask", answersOf(asked), before);
    }

    private static void refused(String name, ToIntFunction<BlindLanterns> call, int want) {
        changesNothing(name, KeptBoundaryTests::lively, call, want);
    }

    // ---- promises

    private static void keepLit() {
        sentence("KEEP: how many elsewhere (p = -1), the LANTERN at a POST. NONE; BAD.");
        BlindLanterns x = laid(men(2) + "o0,40,1;");
        for (int n : NO_BELLS_KEPT) {
            due("keepLit(0, " + n + ", 0)", x.keepLit(0, n, 0), BAD);
            due("keepLit(3, " + n + ", -1), BAD ahead of NONE", x.keepLit(3, n, -1), BAD);
        }
        for (int p : new int[] {-2, 2, 6, Integer.MIN_VALUE, Integer.MAX_VALUE}) {
            due("keepLit(0, 0, " + p + ")", x.keepLit(0, 0, p), BAD);
            due("keepLit(3, 0, " + p + "), BAD ahead of NONE", x.keepLit(3, 0, p), BAD);
        }
        for (int set : new int[] {-1, 4, 7, 63, 64, Integer.MIN_VALUE, Integer.MAX_VALUE}) {
            due("keepLit(" + set + ", 0, 0)", x.keepLit(set, 0, 0), BAD);
        }
        due("keepLit(3, 0, -1)", x.keepLit(3, 0, -1), NONE);
        due("keepLit(0, 20, 1): a set may be 0", x.keepLit(0, 20, 1), 1);
        due("keepLit(1, 0, 0): LANTERN 0", x.keepLit(1, 0, 0), 0);
        due("count(5): nothing is changed by it", x.count(5), 0);
    }

    private static void oil() {
        sentence("OIL. NONE; BAD (a set may be 0).");
        BlindLanterns x = laid(men(2) + "o0,1,1;s0;");
        for (int n : NO_BELLS_KEPT) {
            due("oil(0, " + n + ")", x.oil(0, n), BAD);
            due("oil(3, " + n + "), BAD ahead of NONE", x.oil(3, n), BAD);
        }
        for (int set : new int[] {-1, 4, 7, 63, 64, Integer.MIN_VALUE, Integer.MAX_VALUE}) {
            due("oil(" + set + ", 0)", x.oil(set, 0), BAD);
        }
        due("oil(0, 0)", x.oil(0, 0), 0);
        due("oil(0, 20)", x.oil(0, 20), 0);
        due("oil(3, 20)", x.oil(3, 20), NONE);
        due("oil(1, 20)", x.oil(1, 20), 20);
        due("lantern(0, 1): none is given by it", x.lantern(0, 1), 1);
        due("oil(0, 20) of none lit", laid(men(2)).oil(0, 20), 0);
    }

    private static void night() {
        sentence("A NIGHT: how many are lit (what = 0), oil (1). BAD.");
        BlindLanterns x = laid(men(6) + "o0,40,1;o1,40,0;o5,40,1;");
        for (int what : new int[] {-1, 2, 3, Integer.MIN_VALUE, Integer.MAX_VALUE}) {
            due("night(0, 1, " + what + ")", x.night(0, 1, what), BAD);
        }
        due("night(0, 1, 0): the first draw blows nothing", x.night(0, 1, 0), 2);
        due("night(0, 1, 1)", x.night(0, 1, 1), 118);
        due("night(-1, 1, 0)", x.night(-1, 1, 0), BAD);
        due("night(10000, 60, 1)", x.night(10000, 60, 1), BAD);
        due("night(9999, 61, 1)", x.night(9999, 61, 1), BAD);
        due("night(9999, 60, 0)", x.night(9999, 60, 0), 0);
    }

    private static void keep() {
        sentence("KEPT: how many. FULL.");
        BlindLanterns x = laid(men(2) + "o0,40,1;");
        x.bells(1);
        due("keep()", x.keep(), 1);
        due("keep(): alike", x.keep(), 2);
        due("keep()", x.keep(), FULL);
        due("count(5): what can be undone stays", x.count(5), 1);
        due("undo()", x.undo(), 0);
        due("count(6): and what is kept", x.count(6), 2);
        due("keep()", x.keep(), FULL);
        due("lay()", x.lay(), 2);
        due("keep(): another pass", x.keep(), 1);
        due("back()", x.back(), 0);
        due("count(1)", x.count(1), 0);
    }

    private static void back() {
        sentence("As KEPT last (it is KEPT no more then): how many are left; nothing is UNDONE then.");
        BlindLanterns x = laid("m0;m1;m2;o0,40,1;o1,20,0;s2;");
        x.fill(1, 3);
        x.keep();
        String first = passOf(x);
        x.bells(7);
        x.light(1);
        x.change(0, 2);
        x.keep();
        String second = passOf(x);
        for (int i = 0; i < 9; i++) {
            x.bells(99);
        }
        x.seen(1, 1, false);
        due("back()", x.back(), 1);
        same("back()", passOf(x), second);
        due("count(5)", x.count(5), 0);
        due("undo()", x.undo(), NO);
        same("undo() refused", passOf(x), second);
        x.fill(0, 1);
        due("count(5): what is done behind it can be", x.count(5), 1);
        due("back()", x.back(), 0);
        same("back()", passOf(x), first);
        due("undo()", x.undo(), NO);
        due("count(4): what was felt stays", x.count(4), 1);
        due("count(7): the text, too", x.count(7), 28);
        x.bells(9);
        String after = passOf(x);
        due("keep()", x.keep(), 1);
        x.bells(1);
        due("back(): that one, not one from before", x.back(), 0);
        same("back()", passOf(x), after);
    }

    private static void backRefused() {
        sentence("nothing is UNDONE then. NO.");
        changesNothing("back() of a new object", BlindLanterns::new, BlindLanterns::back, NO);
        changesNothing("back(): what could be undone can be still", () -> rungOften(), BlindLanterns::back, NO);
        changesNothing("back(): none is kept any more", () -> cameBackTwice(), BlindLanterns::back, NO);
    }

    private static BlindLanterns rungOften() {
        BlindLanterns x = laid(men(3) + "o0,40,1;o2,7,0;");
        for (int i = 0; i < 9; i++) {
            x.bells(1);
        }
        x.light(2);
        return x;
    }

    private static BlindLanterns cameBackTwice() {
        BlindLanterns x = rungOften();
        x.keep();
        x.bells(1);
        x.keep();
        x.back();
        x.back();
        x.change(0, 1);
        return x;
    }

    private static void count() {
        sentence("How many: 0 MEN, 1 the BELL, 2 lit ones, 3 oil in all, 4 SEEN, 5 that can be UNDONE, 6 KEPT, 7 bytes of THE TEXT. BAD.");
        int[] least = {2, 0, 0, 0, 0, 0, 0, 0};
        BlindLanterns x = laid(men(2));
        x.wipe();
        for (int what = 0; what <= 7; what++) {
            due("count(" + what + ") at the least", x.count(what), least[what]);
        }
        for (int what : new int[] {-1, 8, 9, 256, Integer.MIN_VALUE, Integer.MAX_VALUE}) {
            due("count(" + what + ")", x.count(what), BAD);
        }
        BlindLanterns lively = lively();
        int[] due = {4, 3, 2, 7 + 17 + 79, 10, 5, 2, 300};
        for (int what = 0; what <= 7; what++) {
            due("count(" + what + ")", lively.count(what), due[what]);
        }
    }

    private static void countMost() {
        sentence("How many: 0 MEN");
        String told = men(6) + "o0,40,0;o1,40,0;o2,40,0;o3,40,0;o4,40,0;o5,40,0;";
        BlindLanterns x = laid(told + "s1;".repeat((300 - told.length()) / 3));
        ringTo(x, 9999);
        for (int l = 0; l < 6; l++) {
            x.fill(l, 40);
            x.fill(l, 19);
            x.light(l);
        }
        for (int i = 0; i < 11; i++) {
            x.seen(0, 0, true);
            x.keep();
        }
        put(x, "xxxxxxxx");
        int left = 300 - x.count(7);
        int[] most = {6, 9999, 6, 594, 10, 8, 2, 300 - left};
        due("count(7): no eight more", left >= 0 && left < 8 ? 1 : 0, 1);
        for (int what = 0; what <= 7; what++) {
            due("count(" + what + ") at the most", x.count(what), most[what]);
        }
    }
}

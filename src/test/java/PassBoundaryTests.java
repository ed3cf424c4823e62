/** The boundary cases of what is done: section 2 of the document, promises 6 to 12; a method for each sentence, in its order. */
public final class PassBoundaryTests extends Checks {
    public static void main(String[] args) {
        bellAtFirst();
        lanternsGoOn();
        draughts();
        draughtsBesideTheBell();
        burning();
        cheeses();
        warmth();
        whatCanBeDone();
        lastEight();
        lantern();
        post();
        fill();
        fillRefused();
        light();
        lightRefused();
        change();
        changeRefused();
        bells();
        bellsRefused();
        undo();
        undoRefused();
        end("the boundary cases of what is done hold");
    }

    private static void lanternIs(BlindLanterns x, int l, String want) {
        same("lantern " + l + " at BELL " + x.count(1), lanternOf(x, l), want);
    }

    /** Rings so many BELLS on two objects, on one of them one by one: one call of bells() does just what many do. */
    private static void ring(BlindLanterns x, BlindLanterns byOne, int bells) {
        x.bells(bells);
        for (int i = 0; i < bells; i++) {
            byOne.bells(1);
        }
        same("bells(" + bells + ") at once", passOf(x), passOf(byOne));
    }

    // ---- section 2

    private static void bellAtFirst() {
        sentence("It is BELL 0 at first.");
        due("count(1) of a new object", new BlindLanterns().count(1), 0);
        BlindLanterns x = laid(men(2) + "u0,0;");
        due("count(1)", x.count(1), 0);
        due("warm(0, 0): the sun of BELL 0", x.warm(0, 0), 1);
        due("bells(1)", x.bells(1), 1);
        due("warm(0, 0)", x.warm(0, 0), 0);
        due("lay()", x.lay(), 2);
        due("warm(0, 0)", x.warm(0, 0), 1);
    }

    private static void lanternsGoOn() {
        sentence("When the next BELL rings, all LANTERNS go S POSTS on, round and round");
        for (int men = 2; men <= 6; men++) {
            for (int step = 0; step <= 5; step++) {
                BlindLanterns x = laid(men(men) + "s" + step + ";");
                for (int bell = 1; bell <= 2 * men; bell++) {
                    x.bells(1);
                    lanternsAre(x, men, step, bell);
                }
                ringTo(x, 9998);
                x.bells(1);
                lanternsAre(x, men, step, 9999);
            }
        }
        BlindLanterns x = laid(men(6) + "o5,40,1;s5;");
        for (int n = 0; n <= 39; n++) {
            due("dark(" + n + "): one back at each bell, round", x.dark(n), 63 - (1 << (65 - n) % 6));
        }
        due("dark(40)", x.dark(40), 63);
    }

    private static void lanternsAre(BlindLanterns x, int men, int step, int bell) {
        for (int l = 0; l < men; l++) {
            int p = (l + step * bell) % men;
            lanternIs(x, l, p + ",0,0");
            due("post(" + p + ", 1)", x.post(p, 1), l);
        }
    }

    private static void draughts() {
        sentence("then what is lit at a POST where a DRAUGHT is at that BELL goes out");
        BlindLanterns came = laid(men(3) + "o0,9,1;o1,9,1;o2,9,1;d1,1;");
        came.bells(1);
        lanternIs(came, 0, "1,9,0");
        lanternIs(came, 1, "2,8,1");
        lanternIs(came, 2, "0,8,1");
        BlindLanterns round = laid(men(6) + "o5,9,1;o4,9,1;d1,0;");
        round.bells(1);
        lanternIs(round, 5, "0,9,0");
        lanternIs(round, 4, "5,8,1");
        BlindLanterns dark = laid(men(2) + "o0,9,0;d1,0;s0;");
        dark.bells(1);
        lanternIs(dark, 0, "0,9,0");
        due("light(0): oil stays where a draught is", dark.light(0), 1);
        BlindLanterns two = laid(men(3) + "o0,9,1;o1,9,1;o2,9,1;s0;d2,0;d2,2;d2,0;");
        two.bells(2);
        lanternIs(two, 0, "0,8,0");
        lanternIs(two, 1, "1,7,1");
        lanternIs(two, 2, "2,8,0");
        BlindLanterns first = laid(men(2) + "o0,9,1;s0;d5,0;d2,0;d7,0;");
        first.bells(9);
        lanternIs(first, 0, "0,8,0");
    }

    private static void draughtsBesideTheBell() {
        sentence("where a DRAUGHT is at that BELL goes out");
        String text = men(2) + "o0,40,1;s0;d1,0;d3,0;d60,0;d59,1;";
        BlindLanterns x = laid(text);
        BlindLanterns byOne = laid(text);
        ring(x, byOne, 1);
        lanternIs(x, 0, "0,40,0");
        x.light(0);
        byOne.light(0);
        ring(x, byOne, 1);
        lanternIs(x, 0, "0,39,1");
        ring(x, byOne, 1);
        lanternIs(x, 0, "0,39,0");
        ring(x, byOne, 55);
        for (BlindLanterns one : new BlindLanterns[] {x, byOne}) {
            one.light(0);
            one.fill(1, 9);
            one.light(1);
        }
        ring(x, byOne, 1);
        lanternIs(x, 0, "0,38,1");
        lanternIs(x, 1, "1,9,0");
        x.keep();
        byOne.keep();
        ring(x, byOne, 1);
        lanternIs(x, 0, "0,38,0");
        x.light(0);
        byOne.light(0);
        ring(x, byOne, 37);
        lanternIs(x, 0, "0,1,1");
        x.back();
        byOne.back();
        ring(x, byOne, 99);
        lanternIs(x, 0, "0,38,0");
    }

    private static void burning() {
        sentence("then each lit one burns 1 oil, and goes out, if it has none left.");
        String text = men(5) + "o0,1,1;o1,2,1;o2,2,0;o3,1,1;o4,2,1;s0;d1,3;d2,4;";
        BlindLanterns x = laid(text);
        x.bells(1);
        lanternIs(x, 0, "0,0,0");
        lanternIs(x, 1, "1,1,1");
        lanternIs(x, 2, "2,2,0");
        lanternIs(x, 3, "3,1,0");
        lanternIs(x, 4, "4,1,1");
        x.bells(1);
        lanternIs(x, 0, "0,0,0");
        lanternIs(x, 1, "1,0,0");
        lanternIs(x, 4, "4,1,0");
        BlindLanterns full = laid(men(2) + "o0,40,1;s0;");
        full.fill(0, 40);
        full.fill(0, 19);
        BlindLanterns byOne = laid(men(2) + "o0,40,1;s0;");
        byOne.fill(0, 40);
        byOne.fill(0, 19);
        full.keep();
        ring(full, byOne, 98);
        lanternIs(full, 0, "0,1,1");
        ring(full, byOne, 1);
        lanternIs(full, 0, "0,0,0");
        full.back();
        full.bells(99);
        lanternIs(full, 0, "0,0,0");
        due("light(0): burnt out", full.light(0), NO);
        full.fill(0, 1);
        lanternIs(full, 0, "0,1,0");
        full.bells(1);
        lanternIs(full, 0, "0,1,0");
    }

    private static void cheeses() {
        sentence("A CHEESE has no oil and is never lit.");
        BlindLanterns x = laid(men(2) + "o0,40,1;o1,3,1;e0;s0;");
        lanternIs(x, 0, "0,0,0");
        due("count(2)", x.count(2), 1);
        due("count(3)", x.count(3), 3);
        due("fill(0, 1)", x.fill(0, 1), NO);
        due("light(0)", x.light(0), NO);
        due("dark(0)", x.dark(0), 1);
        x.change(0, 1);
        due("dark(0): it went", x.dark(0), 2);
        due("lantern(0, 3)", x.lantern(0, 3), 1);
        x.bells(1);
        due("lantern(0, 3)", x.lantern(0, 3), 1);
        x.undo();
        x.undo();
        lanternIs(x, 0, "0,0,0");
        due("fits(): it is in no set", x.fits(), 2);
    }

    private static void warmth() {
        sentence("WARM is a POST to a TRUE MAN, if what is there is lit, or THE SUN is out at that BELL; "
            + "to a COLD one never; to a MOTH, if it would not be so to a TRUE one.");
        BlindLanterns x = laid("m0;m1;m2;m0;m1;m2;o0,40,1;o1,40,1;o2,40,1;s0;u3,5;");
        int[] inTheDark = {1, 0, 0, 0, 0, 1};
        int[] inTheSun = {1, 0, 0, 1, 0, 0};
        for (int n = 0; n <= 39; n++) {
            for (int p = 0; p < 6; p++) {
                due("warm(" + n + ", " + p + ")", x.warm(n, p), (n >= 3 && n <= 5 ? inTheSun : inTheDark)[p]);
            }
        }
        int[] burnt = {0, 0, 1, 0, 0, 1};
        for (int p = 0; p < 6; p++) {
            due("warm(40, " + p + ")", x.warm(40, p), burnt[p]);
        }
        for (int bell = 0; bell <= 6; bell++) {
            for (int p = 0; p < 6; p++) {
                due("post(" + p + ", 2) at BELL " + bell, x.post(p, 2), (bell >= 3 && bell <= 5 ? inTheSun : inTheDark)[p]);
            }
            x.bells(1);
        }
        ringTo(x, 9999);
        for (int p = 0; p < 6; p++) {
            due("post(" + p + ", 2) at BELL 9999", x.post(p, 2), burnt[p]);
        }
    }

    private static void whatCanBeDone() {
        sentence("A LANTERN can get oil; be lit, if it has oil and is not; what is at two POSTS can change places; BELLS can ring.");
        BlindLanterns x = laid(men(2) + "s0;");
        due("light(0): no oil", x.light(0), NO);
        due("fill(0, 1)", x.fill(0, 1), 1);
        lanternIs(x, 0, "0,1,0");
        due("light(0)", x.light(0), 1);
        due("light(0): it is lit", x.light(0), NO);
        due("fill(0, 1): a lit one", x.fill(0, 1), 2);
        lanternIs(x, 0, "0,2,1");
        due("change(0, 1): a lit one", x.change(0, 1), 1);
        lanternIs(x, 0, "1,2,1");
        due("bells(2)", x.bells(2), 2);
        lanternIs(x, 0, "1,0,0");
        due("light(0): burnt out", x.light(0), NO);
    }

    private static void lastEight() {
        sentence("UNDONE is the latest fill(), light(), change(), bells() (the last 8 can be).");
        String text = "m0;m1;m2;o0,40,1;o1,20,0;s2;d3,0;";
        for (int calls = 0; calls <= 18; calls++) {
            BlindLanterns x = laid(text);
            String[] passes = new String[calls + 1];
            for (int i = 0; i < calls; i++) {
                passes[i] = passOf(x);
                due("the call that can be undone, " + i, oneOfFour(x, i) >= 0 ? 1 : 0, 1);
                due("count(5)", x.count(5), Math.min(8, i + 1));
            }
            int left = Math.min(8, calls);
            for (int i = 1; i <= left; i++) {
                due("undo() of " + calls + " calls, " + i, x.undo(), left - i);
                due("count(5)", x.count(5), left - i);
                same("undo() of " + calls + " calls, " + i, passOf(x), passes[calls - i]);
            }
            String before = passOf(x);
            due("undo(): no more of " + calls, x.undo(), NO);
            same("undo() refused", passOf(x), before);
            due("fill(0, 1) behind it", x.fill(0, 1) > 0 ? 1 : 0, 1);
            due("undo() of it", x.undo(), 0);
            same("undo() of it", passOf(x), before);
        }
    }

    /** The k-th call: fill, bells, change, light by turns; LANTERN 1 is the one that is lit, blown out by the DRAUGHT once. */
    private static int oneOfFour(BlindLanterns x, int k) {
        switch (k % 4) {
            case 0:
                return x.fill(1, 1);
            case 1:
                return x.bells(1);
            case 2:
                return x.change(k % 3, (k + 1) % 3);
            default:
                return x.lantern(1, 2) == 1 ? x.fill(1, 2) : x.light(1);
        }
    }

    // ---- promises

    private static void lantern() {
        sentence("Of a LANTERN: its POST (what = 0), oil (1), 1 if it is lit (2), 1 if it is a CHEESE (3). BAD.");
        for (int men = 2; men <= 6; men++) {
            BlindLanterns x = laid(men(men) + "o0,40,1;e" + (men - 1) + ";");
            int[] first = {0, 40, 1, 0};
            int[] last = {men - 1, 0, 0, 1};
            for (int what = 0; what <= 3; what++) {
                due("lantern(0, " + what + ")", x.lantern(0, what), first[what]);
                due("lantern(" + (men - 1) + ", " + what + ")", x.lantern(men - 1, what), last[what]);
                due("lantern(" + men + ", " + what + ")", x.lantern(men, what), BAD);
                due("lantern(6, " + what + ")", x.lantern(6, what), BAD);
                due("lantern(-1, " + what + ")", x.lantern(-1, what), BAD);
            }
            due("lantern(0, 4)", x.lantern(0, 4), BAD);
            due("lantern(0, -1)", x.lantern(0, -1), BAD);
            due("lantern(" + (men - 1) + ", 4)", x.lantern(men - 1, 4), BAD);
        }
    }

    private static void post() {
        sentence("Of a POST: KIND of its MAN (what = 0), the LANTERN there (1), 1 if it is WARM to him (2). BAD.");
        for (int men = 2; men <= 6; men++) {
            BlindLanterns x = laid("m2;" + men(men - 2) + "m1;o0,40,1;");
            int[] first = {2, 0, 0};
            int[] last = {1, men - 1, 0};
            for (int what = 0; what <= 2; what++) {
                due("post(0, " + what + ")", x.post(0, what), first[what]);
                due("post(" + (men - 1) + ", " + what + ")", x.post(men - 1, what), last[what]);
                due("post(" + men + ", " + what + ")", x.post(men, what), BAD);
                due("post(6, " + what + ")", x.post(6, what), BAD);
                due("post(-1, " + what + ")", x.post(-1, what), BAD);
            }
            due("post(0, 3)", x.post(0, 3), BAD);
            due("post(0, -1)", x.post(0, -1), BAD);
            x.bells(1);
            due("post(0, 1): the last came round", x.post(0, 1), men - 1);
            due("post(0, 2): to a moth", x.post(0, 2), 1);
            due("post(0, 0): the men stay", x.post(0, 0), 2);
        }
    }

    private static void fill() {
        sentence("A LANTERN gets n oil (1 to 40): how much it has.");
        BlindLanterns x = laid(men(6));
        due("fill(0, 1)", x.fill(0, 1), 1);
        due("fill(5, 40)", x.fill(5, 40), 40);
        due("fill(5, 40)", x.fill(5, 40), 80);
        due("lantern(5, 1)", x.lantern(5, 1), 80);
        due("lantern(4, 1)", x.lantern(4, 1), 0);
        due("count(3)", x.count(3), 81);
        due("fill(5, 19): to 99", x.fill(5, 19), 99);
        BlindLanterns y = laid(men(2) + "o0,40,0;");
        y.fill(0, 19);
        due("fill(0, 40): from 59 to 99", y.fill(0, 40), 99);
        y.light(0);
        y.bells(1);
        due("fill(0, 1): one was burnt", y.fill(0, 1), 99);
    }

    private static BlindLanterns filled(int n) {
        BlindLanterns x = laid(men(2) + "o0,20,1;e1;s0;");
        for (int left = n - 20; left > 0; left -= 40) {
            x.fill(0, Math.min(40, left));
        }
        return x;
    }

    private static void fillRefused() {
        sentence("how much it has. BAD; NO: a CHEESE, or above 99.");
        for (int n : new int[] {0, -1, 41, 99, Integer.MIN_VALUE, Integer.MAX_VALUE}) {
            changesNothing("fill(0, " + n + ")", () -> filled(20), x -> x.fill(0, n), BAD);
            changesNothing("fill(0, " + n + "), BAD ahead of NO", () -> filled(99), x -> x.fill(0, n), BAD);
            changesNothing("fill(1, " + n + ") of a cheese, BAD ahead of NO", () -> filled(20), x -> x.fill(1, n), BAD);
        }
        for (int l : NONE_OF_TWO) {
            changesNothing("fill(" + l + ", 1)", () -> filled(99), x -> x.fill(l, 1), BAD);
        }
        changesNothing("fill(1, 1) of a cheese", () -> filled(20), x -> x.fill(1, 1), NO);
        changesNothing("fill(1, 40) of a cheese", () -> filled(20), x -> x.fill(1, 40), NO);
        for (int n = 60; n <= 99; n++) {
            int least = 100 - n;
            int oil = n;
            changesNothing("fill(0, " + least + ") from " + oil + " to 100", () -> filled(oil), x -> x.fill(0, least), NO);
            due("fill(0, 40) from " + n, filled(n).fill(0, 40), NO);
            due("fill(0, ..) from " + n + " to 99", n == 99 ? 99 : filled(n).fill(0, 99 - n), 99);
        }
    }

    private static void light() {
        sentence("A LANTERN is lit: how many are.");
        BlindLanterns x = laid(men(6) + "o0,1,0;o1,1,0;o2,1,0;o3,1,0;o4,1,0;o5,1,0;");
        for (int l = 5; l >= 0; l--) {
            due("light(" + l + ")", x.light(l), 6 - l);
            due("lantern(" + l + ", 2)", x.lantern(l, 2), 1);
        }
        due("dark(0)", x.dark(0), 0);
        due("light(0): all are", x.light(0), NO);
        due("count(2)", x.count(2), 6);
        due("count(3): lighting takes no oil", x.count(3), 6);
    }

    private static void lightRefused() {
        sentence("A LANTERN is lit: how many are. BAD; NO.");
        for (int l : NONE_OF_TWO) {
            changesNothing("light(" + l + ")", () -> filled(20), x -> x.light(l), BAD);
        }
        changesNothing("light(0): it is lit", () -> filled(20), x -> x.light(0), NO);
        changesNothing("light(1): a cheese", () -> filled(20), x -> x.light(1), NO);
        changesNothing("light(1): no oil", () -> laid(men(2) + "o0,9,1;"), x -> x.light(1), NO);
    }

    private static void change() {
        sentence("What is at two POSTS changes places: what is at p then.");
        BlindLanterns x = laid(men(6) + "o5,9,1;");
        due("change(0, 5)", x.change(0, 5), 5);
        due("change(0, 5): back", x.change(0, 5), 0);
        due("change(5, 0)", x.change(5, 0), 0);
        due("change(5, 4)", x.change(5, 4), 4);
        lanternIs(x, 5, "0,9,1");
        lanternIs(x, 0, "4,0,0");
        lanternIs(x, 4, "5,0,0");
        lanternIs(x, 1, "1,0,0");
        BlindLanterns two = laid("m1;m2;");
        due("change(1, 0)", two.change(1, 0), 0);
        due("post(0, 0): the men stay", two.post(0, 0), 1);
        two.bells(1);
        due("change(1, 0)", two.change(1, 0), 0);
    }

    private static void changeRefused() {
        sentence("what is at p then. BAD (alike, too).");
        for (int p = 0; p < 2; p++) {
            int q = p;
            changesNothing("change(" + p + ", " + p + ")", () -> filled(20), x -> x.change(q, q), BAD);
        }
        for (int p : NONE_OF_TWO) {
            changesNothing("change(" + p + ", 0)", () -> filled(20), x -> x.change(p, 0), BAD);
            changesNothing("change(1, " + p + ")", () -> filled(20), x -> x.change(1, p), BAD);
            changesNothing("change(" + p + ", " + p + ")", () -> filled(20), x -> x.change(p, p), BAD);
        }
        due("change(5, 5) of six", laid(men(6)).change(5, 5), BAD);
    }

    private static void bells() {
        sentence("n BELLS (1 to 99) go by: the BELL.");
        BlindLanterns x = laid(men(2));
        due("bells(1)", x.bells(1), 1);
        due("bells(99)", x.bells(99), 100);
        due("bells(98)", x.bells(98), 198);
        due("count(1)", x.count(1), 198);
        BlindLanterns y = laid(men(2));
        for (int bell = 99; bell <= 9999; bell += 99) {
            due("bells(99)", y.bells(99), bell);
        }
        due("count(1): 9999 is none too far", y.count(1), 9999);
        due("bells(1): 10000 is", y.bells(1), NO);
    }

    private static BlindLanterns late(int bell) {
        BlindLanterns x = laid(men(2) + "o0,9,0;");
        ringTo(x, bell);
        x.light(0);
        return x;
    }

    private static void bellsRefused() {
        sentence("n BELLS (1 to 99) go by: the BELL. BAD; NO: above 9999.");
        for (int n : new int[] {0, -1, 100, 101, Integer.MIN_VALUE, Integer.MAX_VALUE}) {
            changesNothing("bells(" + n + ")", () -> late(0), x -> x.bells(n), BAD);
            changesNothing("bells(" + n + "), BAD ahead of NO", () -> late(9999), x -> x.bells(n), BAD);
        }
        changesNothing("bells(1) from 9999", () -> late(9999), x -> x.bells(1), NO);
        changesNothing("bells(99) from 9999", () -> late(9999), x -> x.bells(99), NO);
        changesNothing("bells(99) from 9901", () -> late(9901), x -> x.bells(99), NO);
        due("bells(99) from 9900", late(9900).bells(99), 9999);
        due("bells(98) from 9901", late(9901).bells(98), 9999);
        due("bells(2) from 9998", late(9998).bells(2), NO);
        due("bells(1) from 9998", late(9998).bells(1), 9999);
        BlindLanterns x = late(9999);
        due("undo() at BELL 9999", x.undo(), 7);
        due("undo()", x.undo(), 6);
        due("count(1)", x.count(1), 9900);
        due("bells(99) again", x.bells(99), 9999);
        due("fill(0, 1) at BELL 9999", x.fill(0, 1), 10);
        due("change(0, 1) at BELL 9999", x.change(0, 1), x.post(0, 1));
    }

    private static void undo() {
        sentence("UNDONE: how many more can be.");
        BlindLanterns x = laid(men(2) + "o0,9,0;e1;");
        x.seen(0, 0, true);
        x.keep();
        due("undo(): seen() and keep() are not undone", x.undo(), NO);
        due("refused calls", x.fill(1, 1) + x.light(1) + x.change(0, 0) + x.bells(0) + x.fill(0, 41), NO + NO + BAD + BAD + BAD);
        due("undo(): refused calls are not undone", x.undo(), NO);
        x.fill(0, 1);
        x.light(0);
        x.seen(0, 1, true);
        x.keep();
        due("undo() of light()", x.undo(), 1);
        lanternIs(x, 0, "0,10,0");
        due("count(4)", x.count(4), 2);
        due("count(6)", x.count(6), 2);
        due("bells(1) in its stead", x.bells(1), 1);
        due("undo() of bells()", x.undo(), 1);
        due("undo() of fill()", x.undo(), 0);
        lanternIs(x, 0, "0,9,0");
        due("count(1)", x.count(1), 0);
        due("undo()", x.undo(), NO);
        due("lay() of another text", layAfter(x, men(2)), 2);
        due("undo(): nothing of the pass before", x.undo(), NO);
    }

    private static void undoRefused() {
        sentence("UNDONE: how many more can be. NO.");
        changesNothing("undo() of a new object", BlindLanterns::new, BlindLanterns::undo, NO);
        changesNothing("undo() of what is just laid", () -> laid(men(3) + "o0,9,1;u0,3;"), BlindLanterns::undo, NO);
        changesNothing("undo() behind all that could be", () -> undoneAll(), BlindLanterns::undo, NO);
        changesNothing("undo() behind back()", () -> cameBack(), BlindLanterns::undo, NO);
    }

    private static BlindLanterns undoneAll() {
        BlindLanterns x = laid(men(3) + "o0,40,1;u0,3;");
        for (int i = 0; i < 10; i++) {
            x.bells(1);
        }
        for (int i = 0; i < 8; i++) {
            x.undo();
        }
        due("count(1): two are not undone", x.count(1), 2);
        return x;
    }

    private static BlindLanterns cameBack() {
        BlindLanterns x = laid(men(3) + "o0,40,1;u0,3;");
        x.bells(3);
        x.keep();
        x.bells(4);
        x.back();
        return x;
    }
}

/** The boundary cases of what is BEHIND and what was felt: section 3 of the document, promises 13 to 21; a method for each sentence. */
public final class FeltBoundaryTests extends Checks {
    /** Six LANTERNS that can be lit, so that there are 64 sets. */
    private static final String SIX = "m0;m0;m0;m0;m0;m0;o0,40,1;o1,40,0;o2,1,1;o3,40,1;o4,2,0;o5,40,1;s0;";
    private static final int[] NO_LAST_BELL = {-1, 61, 100, Integer.MIN_VALUE, Integer.MAX_VALUE};

    public static void main(String[] args) {
        behindFirstAndLast();
        behindFromNowOn();
        behindDraughts();
        walkFirstAndLast();
        walkRound();
        seenTenAtMost();
        seenAtWhichBell();
        seenSinceLaid();
        fitsLeastAndMost();
        fitsWithOilAsTold();
        fitsJustTheseLit();
        oddsInLowestTerms();
        oddsOfNoSet();
        letOutAll();
        letOutLitAsTold();
        letOutBesides();
        letOutFirst();
        letOutNone();
        coldHandsAll();
        coldHandsAlone();
        warm();
        dark();
        walk();
        seen();
        forget();
        fits();
        odds();
        letOut();
        coldHands();
        end("the boundary cases of what was felt hold");
    }

    private static void felt(BlindLanterns x, int letOut, int first, int coldHands) {
        due("letOut(0)", x.letOut(0), letOut);
        due("letOut(1)", x.letOut(1), first);
        due("coldHands()", x.coldHands(), coldHands);
    }

    // ---- section 3

    /** LANTERN 0 has 59, LANTERN 1 has 60, LANTERN 2 has 61 oil. */
    private static BlindLanterns long60() {
        BlindLanterns x = laid(men(4) + "o0,40,1;o1,40,1;o2,40,1;s0;");
        x.fill(0, 19);
        x.fill(1, 20);
        x.fill(2, 21);
        return x;
    }

    private static void behindFirstAndLast() {
        sentence("BEHIND n BELLS (0 to 60) from now on, nothing else being done: which POSTS are WARM; "
            + "which are DARK (what is there is not lit).");
        BlindLanterns x = long60();
        due("dark(0)", x.dark(0), 8);
        due("dark(1)", x.dark(1), 8);
        due("dark(58)", x.dark(58), 8);
        due("dark(59)", x.dark(59), 9);
        due("dark(60)", x.dark(60), 11);
        due("warm(0, 2)", x.warm(0, 2), 1);
        due("warm(60, 2)", x.warm(60, 2), 1);
        due("warm(60, 1)", x.warm(60, 1), 0);
        due("warm(59, 1)", x.warm(59, 1), 1);
        due("warm(59, 0)", x.warm(59, 0), 0);
        due("warm(58, 0)", x.warm(58, 0), 1);
        due("count(1): nothing is done by it", x.count(1), 0);
        BlindLanterns six = laid("m2;m2;m2;m2;m2;m2;u0,60;");
        due("dark(0): neither the men's hands nor the sun count", six.dark(0), 63);
        due("dark(60) of two", laid(men(2)).dark(60), 3);
    }

    private static void behindFromNowOn() {
        sentence("(0 to 60) from now on, nothing else being done");
        BlindLanterns x = laid(men(3) + "o0,40,1;o1,40,1;d30,1;u58,60;");
        for (int bell = 0; bell <= 61; bell++) {
            due("warm(0, 2) at BELL " + bell, x.warm(0, 2), bell >= 58 && bell <= 60 || litAt(bell, 2) ? 1 : 0);
            due("warm(60, 2) at BELL " + bell, x.warm(60, 2), bell == 0 ? 1 : 0);
            for (int n : new int[] {0, 1, 60 - bell, 60}) {
                if (n >= 0) {
                    due("dark(" + n + ") at BELL " + bell, x.dark(n), darkAt(bell + n));
                }
            }
            x.bells(1);
        }
        BlindLanterns late = laid(men(3));
        ringTo(late, 9999);
        late.fill(2, 40);
        late.fill(2, 21);
        late.light(2);
        due("dark(60) at BELL 9999", late.dark(60), 7 - (1 << (2 + 9999 + 60) % 3));
        due("dark(0) at BELL 9999", late.dark(0), 7 - (1 << (2 + 9999) % 3));
        due("count(1)", late.count(1), 9999);
    }

    /** LANTERN 1 is at POST 1 at BELL 30: the DRAUGHT blows it out; LANTERN 0 burns for 40. */
    private static boolean litAt(int bell, int p) {
        return bell < 40 && bell % 3 == p || bell < 30 && (bell + 1) % 3 == p;
    }

    private static int darkAt(int bell) {
        int posts = 0;
        for (int p = 0; p < 3; p++) {
            posts |= litAt(bell, p) ? 0 : 1 << p;
        }
        return posts;
    }

    private static void behindDraughts() {
        sentence("from now on, nothing else being done: which POSTS are WARM; which are DARK");
        BlindLanterns x = laid(men(2) + "o0,40,1;o1,40,1;s0;d60,0;d1,1;");
        x.fill(0, 40);
        x.fill(1, 40);
        due("dark(0)", x.dark(0), 0);
        due("dark(1): the first bell", x.dark(1), 2);
        due("dark(59)", x.dark(59), 2);
        due("dark(60): the last bell", x.dark(60), 3);
        x.bells(1);
        x.light(1);
        due("dark(58): that one has been", x.dark(58), 0);
        due("dark(59)", x.dark(59), 1);
        due("dark(60)", x.dark(60), 1);
        x.bells(59);
        x.light(0);
        due("dark(1): this one, too", x.dark(1), 0);
        due("dark(20)", x.dark(20), 0);
        due("dark(21): 80 less 59", x.dark(21), 1 + 2);
        due("walk(0, 60)", x.walk(0, 60), 21);
    }

    private static void walkFirstAndLast() {
        sentence("how many lit ones a traveller counts who is at POST p now and one POST farther, round and round, "
            + "BEHIND each BELL more, BEHIND 0, 1, .. n BELLS.");
        BlindLanterns x = laid(men(2) + "o0,40,1;o1,40,1;s0;");
        x.fill(0, 40);
        x.fill(1, 40);
        for (int n = 0; n <= 60; n++) {
            due("walk(0, " + n + "): BEHIND 0, too", x.walk(0, n), n + 1);
            due("walk(1, " + n + ")", x.walk(1, n), n + 1);
        }
        BlindLanterns along = laid(men(6) + "o5,1,1;o3,40,1;");
        due("walk(5, 0)", along.walk(5, 0), 1);
        due("walk(5, 60): it is burnt out BEHIND 1", along.walk(5, 60), 1);
        due("walk(3, 38)", along.walk(3, 38), 39);
        due("walk(3, 39)", along.walk(3, 39), 40);
        due("walk(3, 40)", along.walk(3, 40), 40);
        due("walk(0, 60)", along.walk(0, 60), 0);
    }

    private static void walkRound() {
        sentence("who is at POST p now and one POST farther, round and round");
        BlindLanterns x = laid(men(6) + "o0,40,1;s0;");
        for (int p = 0; p < 6; p++) {
            due("walk(" + p + ", 5)", x.walk(p, 5), 1);
            due("walk(" + p + ", 4)", x.walk(p, 4), p == 1 ? 0 : 1);
            due("walk(" + p + ", 60)", x.walk(p, 60), p == 0 ? 7 : p >= 3 ? 7 : 6);
        }
        BlindLanterns against = laid(men(6) + "o0,40,1;s5;");
        due("walk(0, 2): they meet each third bell", against.walk(0, 2), 1);
        due("walk(0, 3)", against.walk(0, 3), 2);
        due("walk(0, 60): and it is lit BEHIND 39", against.walk(0, 60), 14);
        due("walk(1, 60): or never", against.walk(1, 60), 0);
    }

    private static void seenTenAtMost() {
        sentence("SEEN (10 at most)");
        BlindLanterns x = laid(SIX);
        for (int i = 1; i <= 10; i++) {
            due("seen()", x.seen(i % 6, 0, false), i);
            due("count(4)", x.count(4), i);
        }
        due("seen(): the eleventh", x.seen(0, 0, false), FULL);
        due("count(4)", x.count(4), 10);
        BlindLanterns y = laid(SIX);
        for (int i = 1; i <= 9; i++) {
            due("seen() of one thing", y.seen(5, 60, false), i);
        }
        due("fits()", y.fits(), 64);
        due("seen(0, 0, true): the tenth", y.seen(0, 0, true), 10);
        due("fits(): it counts", y.fits(), 32);
        due("seen(1, 0, true): the eleventh", y.seen(1, 0, true), FULL);
        due("fits(): it does not", y.fits(), 32);
        due("forget()", y.forget(), 10);
        due("seen(1, 0, true): room again", y.seen(1, 0, true), 1);
        due("fits(): none of those before", y.fits(), 32);
        oddsAre(y, 0, 1, 2);
        oddsAre(y, 1, 1, 1);
    }

    private static void seenAtWhichBell() {
        sentence("is that at BELL n (0 to 60)");
        BlindLanterns x = laid(men(2) + "u60,60;o0,1,1;o1,40,1;s0;");
        due("seen(0, 0, true)", x.seen(0, 0, true), 1);
        due("seen(0, 60, true)", x.seen(0, 60, true), 2);
        due("seen(1, 60, true)", x.seen(1, 60, true), 3);
        due("fits()", x.fits(), 2);
        due("seen(0, 59, true)", x.seen(0, 59, true), 4);
        due("fits(): no sun then", x.fits(), 0);
        x.forget();
        x.seen(0, 1, false);
        x.seen(0, 60, false);
        due("fits()", x.fits(), 0);
        due("seen(0, 61, true)", x.seen(0, 61, true), BAD);
        due("seen(0, -1, true)", x.seen(0, -1, true), BAD);
    }

    private static void seenSinceLaid() {
        sentence("nothing having been done since it was LAID, a POST was WARM to its MAN, or was not.");
        BlindLanterns x = laid("m0;m1;m2;o0,9,1;o1,9,0;o2,9,1;");
        x.seen(0, 0, true);
        String before = whatWasFelt(x);
        x.fill(1, 40);
        x.light(1);
        x.change(0, 2);
        x.bells(60);
        x.keep();
        x.bells(99);
        same("what was done", whatWasFelt(x), before);
        x.undo();
        same("undo()", whatWasFelt(x), before);
        x.back();
        same("back()", whatWasFelt(x), before);
        due("seen(1, 0, false): a cold man feels nothing", x.seen(1, 0, false), 2);
        due("seen(2, 0, true): a moth, no light", x.seen(2, 0, true), 3);
        due("fits()", x.fits(), 2);
        due("seen(1, 1, true): a cold man", x.seen(1, 1, true), 4);
        due("fits()", x.fits(), 0);
    }

    private static String whatWasFelt(BlindLanterns x) {
        return x.count(4) + " " + x.fits() + " " + x.odds(0, 0) + " " + x.odds(0, 1) + " " + x.odds(1, 0) + " " + x.odds(1, 1) + " "
            + x.letOut(0) + " " + x.letOut(1) + " " + x.coldHands();
    }

    private static void fitsLeastAndMost() {
        sentence("FITS: how many sets of LANTERNS with oil as told there are such that, were just these lit at BELL 0, all would be as SEEN.");
        due("fits(): no oil, the empty set", laid(men(2)).fits(), 1);
        due("fits(): cheeses", laid(men(2) + "e0;e1;").fits(), 1);
        for (int oiled = 0; oiled <= 6; oiled++) {
            StringBuilder text = new StringBuilder(men(6));
            for (int l = 5; l > 5 - oiled; l--) {
                text.append('o').append(l).append(",1,").append(l % 2).append(';');
            }
            due("fits() of " + text, laid(text.toString()).fits(), 1 << oiled);
        }
        BlindLanterns x = laid(SIX);
        for (int p = 0; p < 6; p++) {
            x.seen(p, 0, p % 2 == 0);
            due("fits(): each halves it", x.fits(), 32 >> p);
        }
        x.seen(0, 0, false);
        due("fits(): none", x.fits(), 0);
        BlindLanterns y = laid(men(2) + "o0,9,1;");
        y.seen(1, 0, true);
        due("fits(): who has no oil is lit in no set", y.fits(), 0);
    }

    private static void fitsWithOilAsTold() {
        sentence("sets of LANTERNS with oil as told there are");
        BlindLanterns x = laid(men(3) + "o0,1,1;o1,2,1;s0;");
        x.fill(2, 9);
        x.fill(0, 9);
        x.light(2);
        due("fits(): oil that was given is not told", x.fits(), 4);
        x.bells(60);
        due("fits(): burnt oil is", x.fits(), 4);
        oddsAre(x, 2, 0, 1);
        x.seen(0, 1, true);
        due("fits(): it would be burnt out", x.fits(), 0);
        x.forget();
        x.seen(1, 1, true);
        due("fits()", x.fits(), 2);
        x.seen(1, 2, false);
        due("fits()", x.fits(), 2);
        x.seen(1, 2, true);
        due("fits()", x.fits(), 0);
    }

    private static void fitsJustTheseLit() {
        sentence("such that, were just these lit at BELL 0, all would be as SEEN.");
        BlindLanterns x = laid(men(2) + "o0,9,1;o1,9,0;d2,0;");
        x.seen(0, 0, false);
        due("fits(): it need not be lit as told", x.fits(), 2);
        oddsAre(x, 0, 0, 1);
        x.seen(1, 0, true);
        due("fits(): nor dark", x.fits(), 1);
        oddsAre(x, 1, 1, 1);
        x.seen(1, 2, true);
        due("fits(): LANTERN 1 is at POST 1 at BELL 2, no draught there", x.fits(), 1);
        x.forget();
        x.seen(0, 2, true);
        due("fits(): LANTERN 0 is at the draught", x.fits(), 0);
        x.forget();
        x.seen(1, 1, true);
        x.seen(0, 2, false);
        due("fits()", x.fits(), 2);
    }

    private static void oddsInLowestTerms() {
        sentence("ODDS: in how many of these a LANTERN is, by how many they are, in lowest terms");
        BlindLanterns x = laid(SIX);
        for (int l = 0; l < 6; l++) {
            oddsAre(x, l, 1, 2);
        }
        x.seen(3, 39, true);
        oddsAre(x, 3, 1, 1);
        oddsAre(x, 0, 1, 2);
        x.seen(1, 0, false);
        oddsAre(x, 1, 0, 1);
        for (int p : new int[] {0, 2, 4, 5}) {
            x.seen(p, 0, p == 5);
        }
        due("fits()", x.fits(), 1);
        int[] isIn = {0, 0, 0, 1, 0, 1};
        for (int l = 0; l < 6; l++) {
            oddsAre(x, l, isIn[l], 1);
        }
        BlindLanterns y = laid(men(2));
        oddsAre(y, 0, 0, 1);
        oddsAre(y, 1, 0, 1);
    }

    private static void oddsOfNoSet() {
        sentence("in lowest terms; none (no such set).");
        BlindLanterns x = laid(SIX);
        x.seen(1, 9, true);
        x.seen(1, 9, false);
        for (int l = 0; l < 6; l++) {
            oddsAre(x, l, NONE, NONE);
        }
        x.forget();
        oddsAre(x, 1, 1, 2);
    }

    private static void letOutAll() {
        sentence("LET OUT: how many DRAUGHTS there are, at a BELL of 1 to 60 and a POST");
        for (int men = 2; men <= 6; men++) {
            felt(laid(men(men)), 60 * men, 10, 64 + (1 << men) - 1);
        }
        BlindLanterns x = laid(SIX);
        x.seen(0, 0, true);
        due("letOut(0): none changes BELL 0", x.letOut(0), 360);
        x.seen(0, 1, true);
        due("letOut(0): not at BELL 1", x.letOut(0), 359);
        due("letOut(1)", x.letOut(1), 11);
        x.seen(0, 39, true);
        due("letOut(0): not at BELL 1 to 39", x.letOut(0), 321);
        x.seen(0, 40, false);
        due("letOut(0): burnt out as told", x.letOut(0), 321);
        x.seen(5, 39, true);
        due("letOut(0): nor there", x.letOut(0), 282);
    }

    private static void letOutLitAsTold() {
        sentence("by one of which besides (lit as told) all would be as SEEN");
        BlindLanterns x = laid(men(2) + "o0,40,1;o1,9,0;s0;");
        x.light(1);
        x.seen(1, 0, false);
        due("letOut(0): lit as told, not as now", x.letOut(0), 120);
        x.seen(0, 39, false);
        due("letOut(0)", x.letOut(0), 39);
        x.seen(0, 38, true);
        due("letOut(0)", x.letOut(0), 1);
        due("letOut(1): the last at which it burns", x.letOut(1), 390);
        BlindLanterns moth = laid("m2;m1;o0,9,1;s0;");
        moth.seen(0, 8, true);
        due("letOut(0): a moth", moth.letOut(0), 8);
        moth.seen(1, 8, false);
        due("letOut(0): a cold one", moth.letOut(0), 8);
        BlindLanterns sun = laid(men(2) + "o0,9,1;s0;u5,6;");
        sun.seen(0, 7, false);
        sun.seen(0, 5, true);
        due("letOut(0): felt through the sun", sun.letOut(0), 7);
        sun.seen(0, 6, false);
        due("letOut(0)", sun.letOut(0), 0);
    }

    private static void letOutBesides() {
        sentence("by one of which besides");
        BlindLanterns told = laid(men(2) + "o0,9,1;o1,9,1;s0;d3,0;");
        due("letOut(0): those told count, too", told.letOut(0), 120);
        told.seen(0, 3, false);
        due("letOut(0): it is out as told", told.letOut(0), 120);
        told.seen(0, 2, true);
        due("letOut(0): not at BELL 1, 2", told.letOut(0), 118);
        told.seen(1, 1, false);
        felt(told, 1, 11, 2);
        told.seen(0, 1, false);
        felt(told, 0, NONE, 0);
        BlindLanterns full = laid(men(2) + "o0,9,1;s0;d1,1;d2,1;d3,1;d4,1;d5,1;d6,1;");
        full.seen(0, 5, false);
        due("letOut(0): a seventh", full.letOut(0), 5);
    }

    private static void letOutFirst() {
        sentence("the first (by BELL, then POST), as 10 times the BELL and the POST");
        BlindLanterns x = laid(men(6) + "o4,40,1;");
        x.seen(1, 3, false);
        due("letOut(0): 15, 20, 31", x.letOut(0), 3);
        due("letOut(1): by BELL ahead of POST", x.letOut(1), 15);
        x.seen(5, 1, true);
        due("letOut(0): 20, 31", x.letOut(0), 2);
        due("letOut(1)", x.letOut(1), 20);
        BlindLanterns y = laid(men(6) + "o0,40,1;o5,40,1;s0;");
        for (int bell = 1; bell <= 39; bell++) {
            y.forget();
            y.seen(0, bell - 1, true);
            y.seen(0, bell, false);
            felt(y, 1, 10 * bell, 0);
            y.forget();
            y.seen(5, bell - 1, true);
            y.seen(5, bell, false);
            felt(y, 1, 10 * bell + 5, 0);
        }
        BlindLanterns z = laid(men(2) + "o0,40,1;o1,1,1;s0;");
        z.seen(1, 0, true);
        due("letOut(1): by POST", z.letOut(1), 10);
        z.seen(0, 1, true);
        due("letOut(1): a draught at a burnt one", z.letOut(1), 11);
    }

    private static void letOutNone() {
        sentence("as 10 times the BELL and the POST; none.");
        BlindLanterns x = laid(men(3) + "o0,9,1;o1,9,1;s0;");
        x.seen(0, 0, false);
        felt(x, 0, NONE, 1);
        x.forget();
        x.seen(0, 8, false);
        x.seen(1, 8, false);
        felt(x, 0, NONE, 0);
        x.forget();
        x.seen(2, 5, true);
        felt(x, 0, NONE, 0);
        x.forget();
        felt(x, 180, 10, 64 + 7);
    }

    private static void coldHandsAll() {
        sentence("COLD HANDS: the MEN (bits) by whom alone, were he COLD, all would be as SEEN, and 64 more, if it is so as told.");
        for (int men = 2; men <= 6; men++) {
            BlindLanterns x = laid(men(men) + "o" + (men - 1) + ",9,1;s0;");
            due("coldHands(): nothing is seen", x.coldHands(), 64 + (1 << men) - 1);
            x.seen(men - 1, 0, true);
            due("coldHands(): not the last", x.coldHands(), 64 + (1 << men - 1) - 1);
            x.forget();
            x.seen(men - 1, 0, false);
            due("coldHands(): the last", x.coldHands(), 1 << men - 1);
            x.seen(0, 0, true);
            due("coldHands(): nobody", x.coldHands(), 0);
        }
        BlindLanterns cold = laid("m1;m1;o0,9,1;o1,9,1;u0,60;");
        cold.seen(0, 60, false);
        due("coldHands(): who is cold as told would be so", cold.coldHands(), 64 + 3);
        cold.seen(1, 0, true);
        due("coldHands()", cold.coldHands(), 0);
    }

    private static void coldHandsAlone() {
        sentence("by whom alone, were he COLD, all would be as SEEN");
        BlindLanterns x = laid("m0;m2;m0;o0,40,1;o2,40,1;s0;u9,9;");
        x.seen(0, 0, false);
        x.seen(0, 39, false);
        due("coldHands(): twice the same man", x.coldHands(), 1);
        x.seen(2, 0, false);
        due("coldHands(): two of them, none alone", x.coldHands(), 0);
        x.forget();
        x.seen(1, 8, false);
        due("coldHands(): a moth", x.coldHands(), 2);
        x.seen(1, 9, false);
        due("coldHands(): as he feels the sun", x.coldHands(), 2);
        x.seen(1, 10, true);
        due("coldHands()", x.coldHands(), 0);
        x.forget();
        x.seen(1, 9, false);
        due("coldHands(): in the sun all is so", x.coldHands(), 64 + 7);
        x.seen(1, 0, true);
        due("coldHands()", x.coldHands(), 64 + 5);
    }

    // ---- promises

    private static void warm() {
        sentence("BEHIND n BELLS: 1 if it is WARM to a MAN. BAD.");
        BlindLanterns x = laid(men(2) + "u0,60;");
        for (int n : NO_LAST_BELL) {
            due("warm(" + n + ", 0)", x.warm(n, 0), BAD);
        }
        for (int p : NONE_OF_TWO) {
            due("warm(0, " + p + ")", x.warm(0, p), BAD);
            due("warm(60, " + p + ")", x.warm(60, p), BAD);
        }
        due("warm(0, 0)", x.warm(0, 0), 1);
        due("warm(60, 1)", x.warm(60, 1), 1);
        BlindLanterns six = laid(men(6) + "u60,60;");
        due("warm(60, 5) of six", six.warm(60, 5), 1);
        due("warm(59, 5) of six", six.warm(59, 5), 0);
        due("warm(60, 6) of six", six.warm(60, 6), BAD);
    }

    private static void dark() {
        sentence("BEHIND n BELLS: which POSTS are DARK, as bits. BAD.");
        for (int men = 2; men <= 6; men++) {
            BlindLanterns x = laid(men(men) + "o" + (men - 1) + ",1,1;");
            due("dark(0) of " + men, x.dark(0), (1 << men - 1) - 1);
            due("dark(1) of " + men, x.dark(1), (1 << men) - 1);
            due("dark(60) of " + men, x.dark(60), (1 << men) - 1);
            for (int n : NO_LAST_BELL) {
                due("dark(" + n + ")", x.dark(n), BAD);
            }
        }
    }

    private static void walk() {
        sentence("WALK. BAD.");
        BlindLanterns x = laid(men(2) + "o0,40,1;o1,40,1;s0;");
        for (int n : NO_LAST_BELL) {
            due("walk(0, " + n + ")", x.walk(0, n), BAD);
        }
        for (int p : NONE_OF_TWO) {
            due("walk(" + p + ", 0)", x.walk(p, 0), BAD);
        }
        due("walk(1, 60)", x.walk(1, 60), 40);
        due("walk(5, 0) of six", laid(SIX).walk(5, 0), 1);
        due("walk(6, 0) of six", laid(SIX).walk(6, 0), BAD);
    }

    private static BlindLanterns seenSoMany(int n) {
        BlindLanterns x = laid(men(2) + "o0,9,1;o1,9,0;");
        for (int i = 0; i < n; i++) {
            x.seen(0, 0, true);
        }
        return x;
    }

    private static void seen() {
        sentence("SEEN: how many. BAD; FULL.");
        for (int many : new int[] {0, 10}) {
            for (int p : NONE_OF_TWO) {
                changesNothing("seen(" + p + ", 0, false) of " + many, () -> seenSoMany(many), x -> x.seen(p, 0, false), BAD);
            }
            for (int n : NO_LAST_BELL) {
                changesNothing("seen(0, " + n + ", false) of " + many, () -> seenSoMany(many), x -> x.seen(0, n, false), BAD);
            }
        }
        changesNothing("seen(1, 60, true) of 10", () -> seenSoMany(10), x -> x.seen(1, 60, true), FULL);
        due("seen(1, 60, true) of 9", seenSoMany(9).seen(1, 60, true), 10);
        BlindLanterns x = seenSoMany(10);
        due("lay()", layAfter(x, men(2)), 2);
        due("seen(1, 0, false): another pass", x.seen(1, 0, false), 1);
        due("fits()", x.fits(), 1);
        due("seen(5, 0, true) of six", laid(SIX).seen(5, 0, true), 1);
    }

    private static void forget() {
        sentence("Nothing is SEEN: how many were.");
        for (int many = 0; many <= 10; many++) {
            BlindLanterns x = seenSoMany(many);
            due("forget() of " + many, x.forget(), many);
            due("count(4)", x.count(4), 0);
            due("fits()", x.fits(), 4);
            due("forget() again", x.forget(), 0);
        }
        BlindLanterns full = seenSoMany(10);
        due("seen(): one too many", full.seen(0, 0, true), FULL);
        due("forget()", full.forget(), 10);
        BlindLanterns undone = seenSoMany(3);
        undone.fill(0, 1);
        undone.forget();
        due("count(5): what was done stays", undone.count(5), 1);
        due("undo()", undone.undo(), 0);
        due("count(4): nothing is seen still", undone.count(4), 0);
    }

    private static void fits() {
        sentence("FITS: how many.");
        due("fits() of a new object", new BlindLanterns().fits(), 4);
        due("fits() of six", laid(SIX).fits(), 64);
        due("fits() again", laid(SIX).fits(), 64);
    }

    private static void odds() {
        sentence("ODDS: above (part = 0), below (1). NONE; BAD.");
        BlindLanterns x = laid(men(2) + "o0,9,1;o1,9,0;");
        BlindLanterns none = laid(men(2) + "o0,9,1;o1,9,0;");
        none.seen(0, 0, true);
        none.seen(0, 0, false);
        for (int l : NONE_OF_TWO) {
            oddsAre(x, l, BAD, BAD);
            oddsAre(none, l, BAD, BAD);
        }
        for (int part : new int[] {-1, 2, 3, Integer.MIN_VALUE, Integer.MAX_VALUE}) {
            due("odds(0, " + part + ")", x.odds(0, part), BAD);
            due("odds(0, " + part + "), BAD ahead of NONE", none.odds(0, part), BAD);
        }
        oddsAre(x, 0, 1, 2);
        oddsAre(x, 1, 1, 2);
        oddsAre(none, 1, NONE, NONE);
        oddsAre(laid(SIX), 5, 1, 2);
        oddsAre(laid(SIX), 6, BAD, BAD);
    }

    private static void letOut() {
        sentence("LET OUT: how many (what = 0), the first (1; NONE). BAD.");
        BlindLanterns x = laid(men(2) + "o0,9,1;");
        BlindLanterns none = laid(men(2) + "o0,9,1;");
        none.seen(1, 0, true);
        for (int what : new int[] {-1, 2, 3, Integer.MIN_VALUE, Integer.MAX_VALUE}) {
            due("letOut(" + what + ")", x.letOut(what), BAD);
            due("letOut(" + what + "), BAD ahead of NONE", none.letOut(what), BAD);
        }
        due("letOut(0)", x.letOut(0), 120);
        due("letOut(1)", x.letOut(1), 10);
        due("letOut(0): how many is 0, not NONE", none.letOut(0), 0);
        due("letOut(1)", none.letOut(1), NONE);
    }

    private static void coldHands() {
        sentence("COLD HANDS, as bits, and 64.");
        due("coldHands() of a new object", new BlindLanterns().coldHands(), 64 + 7);
        due("coldHands() of six", laid(SIX).coldHands(), 127);
        BlindLanterns x = laid(SIX);
        x.seen(1, 0, true);
        due("coldHands(): nobody, nor as told", x.coldHands(), 0);
        BlindLanterns y = laid(men(2) + "o0,9,1;o1,9,1;s0;");
        y.seen(0, 0, true);
        y.seen(1, 0, true);
        due("coldHands(): as told alone", y.coldHands(), 64);
    }
}

/** For each promise of the document: ordinary inputs, the edges that it names, wrong inputs; all worked out by hand. */
public final class PromiseTests extends Checks {
    /** A TRUE, a COLD MAN and a MOTH; LANTERN 0 comes to the DRAUGHT at BELL 2; LANTERN 2 is a CHEESE. */
    private static final String THREE = "m0;m1;m2;o0,5,1;o1,9,0;e2;d2,2;u3,4;";
    /** TRUE MEN, a step of 0, so that each LANTERN stays. */
    private static final String STILL = "m0;m0;m0;m0;o0,3,1;o1,20,1;o2,7,1;o3,9,0;s0;d5,1;";

    public static void main(String[] args) {
        newObject();
        write();
        wipe();
        fault();
        lay();
        lantern();
        post();
        fill();
        light();
        change();
        bells();
        undo();
        warm();
        dark();
        walk();
        seen();
        forget();
        fits();
        odds();
        letOut();
        coldHands();
        keepLit();
        oil();
        night();
        keep();
        back();
        count();
        farOut();
        end("all promises hold");
    }

    private static void newObject() {
        about("promise 1");
        BlindLanterns x = new BlindLanterns();
        same("a new object", stateOf(x), "3 0 1 14 0 0 0 0 0,5,1 1,9,0 2,0,0 4 -4");
        for (int p = 0; p < 3; p++) {
            due("post(" + p + ", 0)", x.post(p, 0), 0);
            due("lantern(" + p + ", 3)", x.lantern(p, 3), 0);
        }
        due("dark(1): the step is 1", x.dark(1), 5);
        due("dark(4)", x.dark(4), 5);
        due("dark(5)", x.dark(5), 7);
        due("lay(): the text is empty", x.lay(), NO);
        due("undo()", x.undo(), NO);
        due("back()", x.back(), NO);
    }

    private static void write() {
        about("promise 2");
        BlindLanterns x = new BlindLanterns();
        due("write(0, 1)", x.write(0, 1), BAD);
        due("write(9, 1)", x.write(9, 1), BAD);
        due("write(-1, 1)", x.write(-1, 1), BAD);
        due("write(3, xxm0;)", x.write(3, 0x78786d303bL), 3);
        due("write(8, m1;s2;m2)", x.write(8, 0x6d313b73323b6d32L), 11);
        due("fault(): ; is wanting", x.fault(), 9);
        due("write(1, ;)", x.write(1, ';'), 12);
        due("fault()", x.fault(), NONE);
        due("lay()", x.lay(), 3);
        due("post(1, 0)", x.post(1, 0), 1);
        due("post(2, 0)", x.post(2, 0), 2);
        x.wipe();
        for (int i = 1; i <= 37; i++) {
            due("write(8, -1)", x.write(8, -1L), 8 * i);
        }
        due("write(5, 0)", x.write(5, 0), FULL);
        due("write(9, 0)", x.write(9, 0), BAD);
        due("write(4, 0)", x.write(4, 0), 300);
        due("write(1, 0)", x.write(1, 0), FULL);
        due("write(0, 0)", x.write(0, 0), BAD);
        due("count(7)", x.count(7), 300);
        due("fault() of bytes 255", x.fault(), 0);
    }

    private static void wipe() {
        about("promise 3");
        BlindLanterns x = new BlindLanterns();
        due("wipe() of nothing", x.wipe(), 0);
        put(x, "m0;m0;");
        due("lay()", x.lay(), 2);
        put(x, "m0");
        due("wipe()", x.wipe(), 8);
        due("wipe() again", x.wipe(), 0);
        due("fault()", x.fault(), NONE);
        due("count(0): what is laid stays", x.count(0), 2);
        put(x, "m0;m0;m0;");
        due("lay() of what came behind", x.lay(), 3);
    }

    private static void fault() {
        about("promise 4");
        String[] good = {"", "m0;", "m00;m01;m02;", "m0;o0,40,1;", "m0;o0,1,1;", "m0;o0,0,0;", "m0;o00,09,01;", "m0;e0;o0,1,0;e0;",
            "s0;s5;s1;", "d1,0;d60,5;d1,0;d1,0;d1,0;d1,0;", "u0,0;u60,60;u0,60;u5,6;", "m0;m0;m0;m0;m0;m0;o5,2,1;e5;", THREE, STILL};
        for (String text : good) {
            due("fault() of " + text, faultOf(text), NONE);
        }
        String[] badItems = {"m3;", "m;", "m0", "m", "m000;", "m0,0;", "m0,;", "m,0;", ";", ",", "0;", "M0;", " m0;", "m 0;", "m0 ;", "m-1;",
            "o0,41,0;", "o0,0,1;", "o0,1,2;", "o0,9,2;", "o0,40,99;", "o1,1,1;", "o0,1;", "o0,1,1,1;", "o0,100,1;", "o0;", "e1;", "e0,0;", "e;", "s6;", "s;", "s1,1;",
            "d0,0;", "d61,0;", "d1,6;", "d1;", "d1,1,1;", "d1,,1;", "u5,4;", "u0,61;", "u61,61;", "u1;", "u1,2,3;", "x1;", "\u00ff", "m\u00b0;",
            "n0;", "o0,1,1:", "u1.2;"};
        for (String item : badItems) {
            due("fault() of m0;" + item, faultOf("m0;" + item), 3);
            due("fault() of m0;s2;" + item + "x;", faultOf("m0;s2;" + item + "x;"), 6);
        }
        due("fault(): a man told behind", faultOf("o0,1,1;m0;"), 0);
        due("fault(): a man told behind", faultOf("m0;e1;m0;"), 3);
        due("fault(): seven men", faultOf("m0;m0;m0;m0;m0;m0;s1;m0;"), 21);
        due("fault(): seven draughts", faultOf("d1,0;d1,0;d1,0;d1,0;d1,0;d1,0;d1,0;"), 30);
        due("fault(): the first one", faultOf("m0;x;y;"), 3);
    }

    private static void lay() {
        about("promise 5");
        due("lay() of nothing", layOf(""), NO);
        due("lay() of one man", layOf("m0;"), NO);
        due("lay() of two men", layOf("m0;m0;"), 2);
        due("lay() of six men", layOf("m0;m1;m2;m0;m1;m2;d1,5;"), 6);
        due("lay() of a fault", layOf("m0;m0;x;"), NO);
        due("lay() of a draught beside the posts", layOf("m0;m0;d1,2;"), NO);
        due("lay() of a draught at a post told behind", layOf("d1,2;m0;m0;m0;"), 3);
        BlindLanterns x = laid(THREE);
        x.seen(0, 0, true);
        x.keep();
        x.bells(3);
        x.change(0, 1);
        due("lay() again", x.lay(), 3);
        same("lay()", stateOf(x), "3 0 1 14 0 0 0 " + THREE.length() + " 0,5,1 1,9,0 2,0,0 4 -4");
        due("undo()", x.undo(), NO);
        due("back()", x.back(), NO);
        put(x, "x");
        x.bells(1);
        x.seen(0, 0, false);
        String before = stateOf(x);
        due("lay() of a fault", x.lay(), NO);
        same("lay()", stateOf(x), before);
        due("post(1, 0)", x.post(1, 0), 1);
        BlindLanterns y = laid("m0;m0;o0,5,1;s0;s3;d1,1;u7,9;u1,1;e1;o1,7,1;e0;");
        same("the last ones that count", passOf(y), "0: 0,0,0 1,7,1");
        due("lantern(0, 3)", y.lantern(0, 3), 1);
        due("lantern(1, 3)", y.lantern(1, 3), 0);
        due("dark(1): three on of two", y.dark(1), 2);
        due("warm(1, 1): the sun", y.warm(1, 1), 1);
        due("warm(7, 0): no sun but the last", laid("m0;m0;u7,9;u1,1;").warm(7, 0), 0);
        due("nothing of the pass before stays", layAfter(y, "m0;m0;m0;o2,4,1;"), 3);
        due("dark(1): the step is 1 again", y.dark(1), 6);
        due("warm(1, 1): there is no sun", y.warm(1, 1), 0);
        due("lantern(0, 3)", y.lantern(0, 3), 0);
        for (int i = 0; i < 3; i++) {
            due("all that can be told", layAfter(y, "m2;m1;m2;o0,9,1;o1,8,1;o2,9,1;e0;e1;s0;d1,2;d2,2;d3,2;d4,2;d5,2;d6,2;u0,60;"), 3);
        }
        for (int i = 0; i < 3; i++) {
            due("two men and no more", layAfter(y, "m0;m0;"), 2);
            same("two men and no more", passOf(y), "0: 0,0,0 1,0,0");
            due("warm(0, 0)", y.warm(0, 0), 0);
            due("fill(0, 3): no cheese", y.fill(0, 3), 3);
            due("light(0)", y.light(0), 1);
            due("dark(1): the step is 1", y.dark(1), 1);
            due("count(2)", y.count(2), 1);
        }
        due("lay() of six draughts again", layAfter(y, "m0;m0;d1,0;d1,0;d1,0;d1,0;d1,0;d1,0;"), 2);
    }

    private static void lantern() {
        about("promise 6");
        BlindLanterns x = laid(THREE);
        x.bells(1);
        int[][] due = {{1, 4, 1, 0}, {2, 9, 0, 0}, {0, 0, 0, 1}};
        for (int l = 0; l < 3; l++) {
            for (int what = 0; what < 4; what++) {
                due("lantern(" + l + ", " + what + ")", x.lantern(l, what), due[l][what]);
            }
            due("lantern(" + l + ", 4)", x.lantern(l, 4), BAD);
            due("lantern(" + l + ", -1)", x.lantern(l, -1), BAD);
        }
        due("lantern(3, 0)", x.lantern(3, 0), BAD);
        due("lantern(-1, 0)", x.lantern(-1, 0), BAD);
    }

    private static void post() {
        about("promise 7");
        BlindLanterns x = laid(THREE);
        int[][] first = {{0, 0, 1}, {1, 1, 0}, {2, 2, 1}};
        int[][] behindOne = {{0, 2, 0}, {1, 0, 0}, {2, 1, 1}};
        int[][] inSun = {{0, 0, 1}, {1, 1, 0}, {2, 2, 0}};
        postsAre(x, first);
        x.bells(1);
        postsAre(x, behindOne);
        x.bells(2);
        postsAre(x, inSun);
        due("post(0, 3)", x.post(0, 3), BAD);
        due("post(0, -1)", x.post(0, -1), BAD);
        due("post(3, 0)", x.post(3, 0), BAD);
        due("post(-1, 0)", x.post(-1, 0), BAD);
    }

    private static void postsAre(BlindLanterns x, int[][] due) {
        for (int p = 0; p < 3; p++) {
            for (int what = 0; what < 3; what++) {
                due("post(" + p + ", " + what + ")", x.post(p, what), due[p][what]);
            }
        }
    }

    private static void fill() {
        about("promise 8");
        BlindLanterns x = laid(THREE);
        due("fill(1, 40)", x.fill(1, 40), 49);
        due("fill(1, 1)", x.fill(1, 1), 50);
        due("fill(1, 40)", x.fill(1, 40), 90);
        due("fill(1, 9)", x.fill(1, 9), 99);
        String before = stateOf(x);
        due("fill(1, 1)", x.fill(1, 1), NO);
        due("fill(2, 1): a cheese", x.fill(2, 1), NO);
        due("fill(1, 0)", x.fill(1, 0), BAD);
        due("fill(1, 41)", x.fill(1, 41), BAD);
        due("fill(2, 41)", x.fill(2, 41), BAD);
        due("fill(3, 1)", x.fill(3, 1), BAD);
        due("fill(-1, 1)", x.fill(-1, 1), BAD);
        same("refused fills", stateOf(x), before);
        due("lantern(1, 2): oil alone lights none", x.lantern(1, 2), 0);
    }

    private static void light() {
        about("promise 9");
        BlindLanterns x = laid(THREE);
        due("light(0): is lit", x.light(0), NO);
        due("light(2): a cheese", x.light(2), NO);
        due("light(1)", x.light(1), 2);
        due("light(1) again", x.light(1), NO);
        due("light(3)", x.light(3), BAD);
        due("light(-1)", x.light(-1), BAD);
        due("count(5)", x.count(5), 1);
        x.bells(2);
        due("light(0): blown out", x.light(0), 2);
        BlindLanterns y = laid("m0;m0;o0,1,1;");
        y.bells(1);
        due("light(0): burnt out", y.light(0), NO);
        due("light(1): without oil", y.light(1), NO);
        y.fill(0, 1);
        due("light(0): filled", y.light(0), 1);
    }

    private static void change() {
        about("promise 10");
        BlindLanterns x = laid(THREE);
        due("change(0, 2)", x.change(0, 2), 2);
        due("change(2, 1)", x.change(2, 1), 1);
        due("lantern(0, 0)", x.lantern(0, 0), 1);
        due("lantern(1, 0)", x.lantern(1, 0), 2);
        due("lantern(2, 0)", x.lantern(2, 0), 0);
        due("dark(0)", x.dark(0), 5);
        due("post(1, 0): the men stay", x.post(1, 0), 1);
        due("change(1, 1)", x.change(1, 1), BAD);
        due("change(0, 3)", x.change(0, 3), BAD);
        due("change(3, 0)", x.change(3, 0), BAD);
        due("change(-1, 0)", x.change(-1, 0), BAD);
        due("change(0, -1)", x.change(0, -1), BAD);
        due("count(5)", x.count(5), 2);
    }

    private static void bells() {
        about("promise 11");
        BlindLanterns x = laid(THREE);
        due("bells(0)", x.bells(0), BAD);
        due("bells(100)", x.bells(100), BAD);
        due("bells(-1)", x.bells(-1), BAD);
        due("bells(1)", x.bells(1), 1);
        due("bells(1)", x.bells(1), 2);
        due("lantern(0, 1): blown out ahead of burning", x.lantern(0, 1), 4);
        due("lantern(0, 2)", x.lantern(0, 2), 0);
        x.light(0);
        due("bells(4)", x.bells(4), 6);
        due("lantern(0, 1): burnt out", x.lantern(0, 1), 0);
        due("lantern(0, 2)", x.lantern(0, 2), 0);
        due("lantern(0, 0)", x.lantern(0, 0), 0);
        BlindLanterns y = laid("m0;m0;m0;o0,2,1;d2,2;");
        y.bells(2);
        due("lantern(0, 1): the draught comes first at the last bell of its oil", y.lantern(0, 1), 1);
        due("light(0)", y.light(0), 1);
        for (int i = 0; i < 100; i++) {
            y.bells(99);
        }
        due("bells(98)", y.bells(98), NO);
        due("bells(100)", y.bells(100), BAD);
        due("bells(97)", y.bells(97), 9999);
        due("bells(1)", y.bells(1), NO);
        due("count(1)", y.count(1), 9999);
        due("lantern(0, 0)", y.lantern(0, 0), 0);
    }

    private static void undo() {
        about("promise 12");
        BlindLanterns x = laid(THREE);
        due("undo()", x.undo(), NO);
        String[] passes = new String[12];
        for (int i = 0; i < 12; i++) {
            passes[i] = passOf(x);
            int answer = i % 4 == 0 ? x.fill(1, 2) : i % 4 == 1 ? x.bells(2) : i % 4 == 2 ? x.change(0, 1) : x.light(1);
            due("the call to be undone, " + i, answer >= 0 ? 1 : 0, i == 7 || i == 11 ? 0 : 1);
        }
        for (int left = 7; left >= 0; left--) {
            int call = new int[] {2, 3, 4, 5, 6, 8, 9, 10}[left];
            due("undo()", x.undo(), left);
            same("undo(), " + left + " left", passOf(x), passes[call]);
        }
        due("undo()", x.undo(), NO);
        BlindLanterns y = laid(THREE);
        y.fill(0, 41);
        y.light(0);
        y.change(0, 0);
        y.bells(0);
        y.seen(0, 0, true);
        y.keep();
        due("undo(): nothing was done", y.undo(), NO);
        due("count(4): what was felt stays", y.count(4), 1);
        y.bells(1);
        y.seen(0, 0, true);
        y.keep();
        y.undo();
        due("count(4)", y.count(4), 2);
        due("count(6)", y.count(6), 2);
    }

    private static void warm() {
        about("promise 13");
        BlindLanterns x = laid(THREE);
        int[][] due = {{1, 0, 1}, {0, 0, 1}, {0, 0, 1}, {1, 0, 0}, {1, 0, 0}, {0, 0, 1}, {0, 0, 1}};
        for (int n = 0; n < due.length; n++) {
            for (int p = 0; p < 3; p++) {
                due("warm(" + n + ", " + p + ")", x.warm(n, p), due[n][p]);
            }
        }
        due("warm(60, 2)", x.warm(60, 2), 1);
        due("warm(61, 2)", x.warm(61, 2), BAD);
        due("warm(-1, 2)", x.warm(-1, 2), BAD);
        due("warm(0, 3)", x.warm(0, 3), BAD);
        due("warm(0, -1)", x.warm(0, -1), BAD);
        x.bells(1);
        due("warm(2, 0): the sun is told by the bell", x.warm(2, 0), 1);
        due("warm(4, 0)", x.warm(4, 0), 0);
        due("count(1): nothing rang", x.count(1), 1);
        BlindLanterns moth = laid("m2;m0;o0,2,1;s0;");
        due("warm(1, 0): a lit one, to a moth", moth.warm(1, 0), 0);
        due("warm(2, 0): it is burnt out", moth.warm(2, 0), 1);
        BlindLanterns sunAtFirst = laid("m0;m0;u0,0;");
        due("warm(0, 0)", sunAtFirst.warm(0, 0), 1);
        due("warm(1, 0)", sunAtFirst.warm(1, 0), 0);
    }

    private static void dark() {
        about("promise 14");
        BlindLanterns x = laid(THREE);
        int[] due = {6, 5, 7, 7};
        for (int n = 0; n < due.length; n++) {
            due("dark(" + n + "): told without the men's hands and the sun", x.dark(n), due[n]);
        }
        due("dark(60)", x.dark(60), 7);
        due("dark(61)", x.dark(61), BAD);
        due("dark(-1)", x.dark(-1), BAD);
        BlindLanterns y = laid(STILL);
        due("dark(0)", y.dark(0), 8);
        due("dark(2)", y.dark(2), 8);
        due("dark(3)", y.dark(3), 9);
        due("dark(4)", y.dark(4), 9);
        due("dark(5)", y.dark(5), 11);
        due("dark(7)", y.dark(7), 15);
        y.bells(5);
        y.light(1);
        due("dark(15): the draught has been", y.dark(15), 13);
        due("dark(16)", y.dark(16), 15);
        BlindLanterns z = laid("m0;m0;m0;m0;m0;m0;o5,40,1;s5;d3,2;");
        due("dark(2): five on, round", z.dark(2), 63 - 8);
        due("dark(3)", z.dark(3), 63);
    }

    private static void walk() {
        about("promise 15");
        BlindLanterns x = laid(THREE);
        due("walk(0, 0)", x.walk(0, 0), 1);
        due("walk(0, 1)", x.walk(0, 1), 2);
        due("walk(0, 60)", x.walk(0, 60), 2);
        due("walk(1, 60)", x.walk(1, 60), 0);
        due("walk(0, 61)", x.walk(0, 61), BAD);
        due("walk(0, -1)", x.walk(0, -1), BAD);
        due("walk(3, 0)", x.walk(3, 0), BAD);
        due("walk(-1, 0)", x.walk(-1, 0), BAD);
        BlindLanterns y = laid(STILL);
        due("walk(0, 3): not the fourth", y.walk(0, 3), 3);
        due("walk(1, 3): round, to a burnt one", y.walk(1, 3), 2);
        due("walk(1, 4): the first post again, ahead of the draught", y.walk(1, 4), 3);
        due("walk(1, 5)", y.walk(1, 5), 4);
        due("walk(1, 8): the draught has been", y.walk(1, 8), 4);
    }

    private static void seen() {
        about("promise 16");
        BlindLanterns x = laid(THREE);
        due("seen(3, 0, true)", x.seen(3, 0, true), BAD);
        due("seen(-1, 0, true)", x.seen(-1, 0, true), BAD);
        due("seen(0, 61, true)", x.seen(0, 61, true), BAD);
        due("seen(0, -1, true)", x.seen(0, -1, true), BAD);
        due("seen(0, 0, true)", x.seen(0, 0, true), 1);
        due("seen(0, 0, false): against the other", x.seen(0, 0, false), 2);
        due("fits()", x.fits(), 0);
        for (int i = 3; i <= 10; i++) {
            due("seen(2, 60, true)", x.seen(2, 60, true), i);
        }
        due("seen(2, 60, true)", x.seen(2, 60, true), FULL);
        due("seen(3, 60, true)", x.seen(3, 60, true), BAD);
        due("count(4)", x.count(4), 10);
        BlindLanterns y = laid(THREE);
        y.bells(9);
        y.change(0, 1);
        y.seen(0, 0, true);
        due("fits(): as it was when laid", y.fits(), 2);
        due("coldHands(): as it was when laid", y.coldHands(), 64 + 6);
    }

    private static void forget() {
        about("promise 17");
        BlindLanterns x = laid(THREE);
        due("forget()", x.forget(), 0);
        x.seen(0, 0, true);
        x.seen(0, 0, false);
        due("forget()", x.forget(), 2);
        due("forget()", x.forget(), 0);
        due("fits()", x.fits(), 4);
        due("seen(0, 0, true)", x.seen(0, 0, true), 1);
    }

    private static void fits() {
        about("promise 18");
        BlindLanterns x = laid(THREE);
        due("fits(): LANTERNS 0 and 1 have oil", x.fits(), 4);
        x.seen(1, 1, false);
        due("fits(): a cold man feels nothing", x.fits(), 4);
        x.seen(2, 1, false);
        due("fits(): LANTERN 1 warms the post of a moth", x.fits(), 2);
        x.seen(0, 2, true);
        due("fits(): and is at POST 0 behind one more", x.fits(), 2);
        x.seen(0, 4, false);
        due("fits(): there was the sun", x.fits(), 0);
        BlindLanterns six = laid("m0;m0;m0;m0;m0;m0;o0,1,0;o1,1,1;o2,1,0;o3,1,1;o4,1,0;o5,1,1;");
        due("fits() of six", six.fits(), 64);
        six.seen(0, 0, false);
        due("fits()", six.fits(), 32);
        six.seen(3, 1, false);
        due("fits(): all are burnt out behind one", six.fits(), 32);
        six.seen(3, 1, true);
        due("fits()", six.fits(), 0);
        due("fits() without oil", laid("m0;m0;").fits(), 1);
    }

    private static void odds() {
        about("promise 19");
        BlindLanterns x = laid("m0;m0;m0;m2;o0,9,1;o1,9,0;o3,9,1;s0;");
        oddsAre(x, 0, 1, 2);
        oddsAre(x, 2, 0, 1);
        x.seen(1, 5, true);
        oddsAre(x, 1, 1, 1);
        oddsAre(x, 3, 1, 2);
        due("odds(4, 0)", x.odds(4, 0), BAD);
        due("odds(-1, 0)", x.odds(-1, 0), BAD);
        due("odds(0, 2)", x.odds(0, 2), BAD);
        due("odds(0, -1)", x.odds(0, -1), BAD);
        x.seen(1, 5, false);
        due("odds(0, 0)", x.odds(0, 0), NONE);
        due("odds(0, 1)", x.odds(0, 1), NONE);
        due("odds(4, 1)", x.odds(4, 1), BAD);
        oddsAre(laid("m0;m0;"), 0, 0, 1);
        BlindLanterns y = laid("m0;m0;o0,9,1;o1,9,1;s0;d3,1;");
        y.seen(0, 4, true);
        oddsAre(y, 0, 1, 1);
        oddsAre(y, 1, 1, 2);
    }

    private static void letOut() {
        about("promise 20");
        BlindLanterns x = laid(STILL);
        due("letOut(0): all 60 times 4", x.letOut(0), 240);
        due("letOut(1)", x.letOut(1), 10);
        x.seen(2, 4, false);
        due("letOut(0): at POST 2 at BELL 1 to 4", x.letOut(0), 4);
        due("letOut(1)", x.letOut(1), 12);
        x.seen(2, 2, true);
        due("letOut(0): at 3 or 4", x.letOut(0), 2);
        due("letOut(1)", x.letOut(1), 32);
        x.seen(1, 4, false);
        due("letOut(0): not two of them", x.letOut(0), 0);
        due("letOut(1)", x.letOut(1), NONE);
        due("letOut(2)", x.letOut(2), BAD);
        due("letOut(-1)", x.letOut(-1), BAD);
        BlindLanterns y = laid("m0;m0;m0;o0,40,1;");
        y.seen(2, 2, true);
        y.seen(0, 3, false);
        due("letOut(0): where the lantern comes to", y.letOut(0), 1);
        due("letOut(1)", y.letOut(1), 30);
        y.bells(7);
        due("letOut(1): as it was when laid", y.letOut(1), 30);
        BlindLanterns z = laid("m0;m0;o0,40,1;s0;");
        z.seen(0, 0, true);
        z.seen(1, 60, false);
        z.seen(0, 39, false);
        due("letOut(0): BELL 1 to 39", z.letOut(0), 39);
    }

    private static void coldHands() {
        about("promise 21");
        BlindLanterns x = laid(THREE);
        due("coldHands(): nothing is seen", x.coldHands(), 64 + 7);
        x.seen(0, 0, true);
        due("coldHands()", x.coldHands(), 64 + 6);
        x.seen(2, 0, false);
        due("coldHands(): the moth is", x.coldHands(), 4);
        x.seen(1, 0, true);
        due("coldHands(): nobody alone", x.coldHands(), 0);
        BlindLanterns y = laid("m0;m0;m1;u0,60;");
        y.seen(2, 30, false);
        due("coldHands(): he is as told", y.coldHands(), 64 + 7);
        y.seen(1, 9, false);
        due("coldHands()", y.coldHands(), 2);
    }

    private static void keepLit() {
        about("promise 22");
        BlindLanterns x = laid(STILL);
        due("keepLit(0, 20, -1)", x.keepLit(0, 20, -1), 0);
        wayIs(x, 1, 2, 0, 1, 2, 3);
        wayIs(x, 1, 3, 1, 0, 2, 3);
        wayIs(x, 1, 7, 1, 0, 2, 3);
        wayIs(x, 2, 4, 0, 1, 2, 3);
        due("keepLit(2, 5, -1): the draught", x.keepLit(2, 5, -1), NONE);
        wayIs(x, 8, 0, 0, 1, 3, 2);
        wayIs(x, 12, 6, 0, 3, 1, 2);
        due("keepLit(15, 0, 0)", x.keepLit(15, 0, 0), NONE);
        wayIs(x, 4, 19, 0, 2, 1, 3);
        due("keepLit(4, 20, -1)", x.keepLit(4, 20, -1), NONE);
        x.change(0, 3);
        due("keepLit(0, 0, -1): how many are elsewhere than now", x.keepLit(0, 0, -1), 2);
        due("keepLit(0, 0, 0)", x.keepLit(0, 0, 0), 0);
        due("keepLit(16, 0, 0)", x.keepLit(16, 0, 0), BAD);
        due("keepLit(-1, 0, 0)", x.keepLit(-1, 0, 0), BAD);
        due("keepLit(1, 21, 0)", x.keepLit(1, 21, 0), BAD);
        due("keepLit(1, -1, 0)", x.keepLit(1, -1, 0), BAD);
        due("keepLit(1, 0, 4)", x.keepLit(1, 0, 4), BAD);
        due("keepLit(1, 0, -2)", x.keepLit(1, 0, -2), BAD);
        due("keepLit(15, 20, 4): BAD ahead of NONE", x.keepLit(15, 20, 4), BAD);
        due("lantern(0, 0): nothing is changed by it", x.lantern(0, 0), 3);
        BlindLanterns y = laid("m0;m0;m0;o0,1,1;o1,2,1;o2,3,1;");
        wayIs(y, 1, 1, 0, 1, 2);
        wayIs(y, 4, 1, 0, 1, 2);
        wayIs(y, 2, 1, 1, 0, 2);
        wayIs(laid("m0;m0;m0;o0,5,1;s0;"), 4, 4, 1, 2, 0);
    }

    private static void oil() {
        about("promise 23");
        BlindLanterns x = laid(STILL);
        due("oil(0, 20)", x.oil(0, 20), 0);
        due("oil(1, 2)", x.oil(1, 2), 0);
        due("oil(1, 3)", x.oil(1, 3), 1);
        due("oil(1, 20)", x.oil(1, 20), 18);
        due("oil(5, 20)", x.oil(5, 20), 18 + 14);
        due("oil(2, 4)", x.oil(2, 4), 0);
        due("oil(2, 5): the draught", x.oil(2, 5), NONE);
        due("oil(8, 0): not lit", x.oil(8, 0), NONE);
        due("oil(9, 20)", x.oil(9, 20), NONE);
        due("oil(16, 0)", x.oil(16, 0), BAD);
        due("oil(-1, 0)", x.oil(-1, 0), BAD);
        due("oil(1, 21)", x.oil(1, 21), BAD);
        due("oil(1, -1)", x.oil(1, -1), BAD);
        due("oil(24, 21)", x.oil(24, 21), BAD);
        due("lantern(0, 1): none is given by it", x.lantern(0, 1), 3);
        x.bells(3);
        due("oil(1, 0): burnt out", x.oil(1, 0), NONE);
        due("oil(4, 9)", x.oil(4, 9), 6);
        BlindLanterns y = laid("m0;m0;m0;o0,1,1;o1,1,1;o2,1,1;d2,0;");
        due("oil(1, 1): who comes there", y.oil(1, 1), 1);
        due("oil(2, 2): another draught's post", y.oil(2, 2), 1 + 2);
        due("oil(1, 2)", y.oil(1, 2), NONE);
    }

    /** By z 0 DRAW is 41487, 10299, 37479 at the first BELLS; by 8, modulo 4: 1, 3, 0; 37479 is odd: POST 1 of 2. */
    private static void night() {
        about("promise 24");
        BlindLanterns x = laid("m0;m0;o0,40,1;o1,40,1;s0;");
        due("night(0, 2, 0)", x.night(0, 2, 0), 2);
        due("night(0, 2, 1)", x.night(0, 2, 1), 76);
        due("night(0, 3, 0)", x.night(0, 3, 0), 1);
        due("night(0, 3, 1): blown out ahead of burning", x.night(0, 3, 1), 37 + 38);
        due("night(0, 60, 0)", x.night(0, 60, 0), 0);
        due("night(9999, 60, 0)", x.night(9999, 60, 0), 0);
        for (int z = 0; z <= 9999; z += 1111) {
            for (int n = 1; n <= 60; n += 19) {
                due("night(" + z + ", " + n + ", 0)", x.night(z, n, 0), nightOf(z, n, 0));
                due("night(" + z + ", " + n + ", 1)", x.night(z, n, 1), nightOf(z, n, 1));
            }
        }
        due("night(-1, 1, 0)", x.night(-1, 1, 0), BAD);
        due("night(10000, 1, 0)", x.night(10000, 1, 0), BAD);
        due("night(0, 0, 0)", x.night(0, 0, 0), BAD);
        due("night(0, 61, 0)", x.night(0, 61, 0), BAD);
        due("night(0, 1, 2)", x.night(0, 1, 2), BAD);
        due("night(0, 1, -1)", x.night(0, 1, -1), BAD);
        due("count(1)", x.count(1), 0);
        due("count(3)", x.count(3), 80);
        due("undo(): nothing was done", x.undo(), NO);
        BlindLanterns y = laid("m0;m0;o0,40,1;o1,40,1;s0;d1,0;");
        due("night(0, 1, 0): the draught told besides", y.night(0, 1, 0), 1);
        y.bells(1);
        due("night(0, 1, 1): from now on", y.night(0, 1, 1), 40 + 39 - 1);
    }

    /** What is left of two LANTERNS that stay, with oil 40 each. */
    private static int nightOf(int z, int n, int what) {
        int[] oil = {40, 40};
        boolean[] lit = {true, true};
        for (int k = 1; k <= n; k++) {
            long x = 7919L * z + 6151L * k + 1L;
            int drawn = (int) (x * x % 65521L);
            if ((drawn >> 3) % 4 == 0) {
                lit[drawn % 2] = false;
            }
            for (int l = 0; l < 2; l++) {
                oil[l] -= lit[l] ? 1 : 0;
                lit[l] &= oil[l] > 0;
            }
        }
        return what == 0 ? (lit[0] ? 1 : 0) + (lit[1] ? 1 : 0) : oil[0] + oil[1];
    }

    private static void keep() {
        about("promise 25");
        BlindLanterns x = laid(THREE);
        due("keep()", x.keep(), 1);
        x.bells(2);
        due("keep()", x.keep(), 2);
        due("keep()", x.keep(), FULL);
        due("count(6)", x.count(6), 2);
        due("count(5): keeping undoes nothing", x.count(5), 1);
        x.back();
        due("keep()", x.keep(), 2);
    }

    private static void back() {
        about("promise 26");
        BlindLanterns x = laid(THREE);
        due("back()", x.back(), NO);
        x.light(1);
        x.keep();
        String first = passOf(x);
        x.bells(2);
        x.change(0, 1);
        x.keep();
        x.fill(0, 9);
        x.bells(50);
        x.seen(0, 0, false);
        due("back()", x.back(), 1);
        due("count(1)", x.count(1), 2);
        due("lantern(1, 0)", x.lantern(1, 0), 1);
        due("lantern(0, 1)", x.lantern(0, 1), 4);
        due("count(5)", x.count(5), 0);
        due("undo()", x.undo(), NO);
        due("count(4): what was felt stays", x.count(4), 1);
        x.bells(9);
        due("undo()", x.undo(), 0);
        due("back()", x.back(), 0);
        same("back()", passOf(x), first);
        x.bells(3);
        String before = stateOf(x);
        due("back()", x.back(), NO);
        same("back() refused", stateOf(x), before);
    }

    private static void count() {
        about("promise 27");
        BlindLanterns x = laid(THREE + "m0;");
        x.seen(0, 0, true);
        x.seen(0, 0, true);
        x.keep();
        x.light(1);
        x.bells(1);
        x.fill(3, 30);
        put(x, "ab");
        int[] due = {4, 1, 2, 4 + 8 + 30, 2, 3, 1, THREE.length() + 5};
        for (int what = 0; what < 8; what++) {
            due("count(" + what + ")", x.count(what), due[what]);
        }
        due("count(8)", x.count(8), BAD);
        due("count(-1)", x.count(-1), BAD);
    }

    /** Of numbers far out none may overflow into a good one, nor throw. */
    private static void farOut() {
        about("numbers far out");
        BlindLanterns x = laid(STILL);
        String before = stateOf(x);
        for (int n : FAR_OUT) {
            int[] answers = {x.write(n, n), x.lantern(n, 0), x.lantern(0, n), x.post(n, 0), x.post(0, n), x.fill(n, 1), x.fill(0, n),
                x.light(n), x.change(n, 0), x.change(0, n), x.change(n, n), x.bells(n), x.warm(n, 0), x.warm(0, n), x.dark(n),
                x.walk(n, 0), x.walk(0, n), x.seen(n, 0, true), x.seen(0, n, true), x.odds(n, 0), x.odds(0, n), x.letOut(n),
                x.keepLit(n, 0, 0), x.keepLit(0, n, 0), x.keepLit(0, 0, n), x.oil(n, 0), x.oil(0, n), x.night(n, 1, 0),
                x.night(0, n, 0), x.night(0, 1, n), x.count(n)};
            for (int i = 0; i < answers.length; i++) {
                due("call " + i + " with " + n, answers[i], BAD);
            }
        }
        same("numbers far out", stateOf(x), before);
    }
}

/** The boundary cases of the TEXT: section 1 of the document, promises 1 to 5; a method for each sentence, in its order. */
public final class TextBoundaryTests extends Checks {
    public static void main(String[] args) {
        bytesOfAText();
        itemsOfAText();
        kindsOfMen();
        callsOfOneObject();
        howManyMen();
        lanternsAtFirst();
        oilOfWhom();
        oilHowMuch();
        oilLitOrNot();
        cheeses();
        lastOfOilAndCheese();
        steps();
        lastOfSteps();
        bellsOfDraughts();
        postsOfDraughts();
        howManyDraughts();
        sun();
        lastOfSuns();
        placeOfTheFault();
        menOfALaidText();
        postsOfALaidText();
        laidAtFirst();
        newObject();
        write();
        writeRefused();
        wipe();
        fault();
        lay();
        layAfterOthers();
        layRefused();
        end("the boundary cases of the text hold");
    }

    private static void goodItem(String item) {
        due("fault() of m0;" + item, faultOf("m0;" + item), NONE);
        due("fault() of m0;" + item + "s1;", faultOf("m0;" + item + "s1;"), NONE);
    }

    /** A wrong ITEM is the fault wherever it stands, and whatever comes behind it. */
    private static void badItem(String item) {
        due("fault() of m0;" + item, faultOf("m0;" + item), 3);
        due("fault() of m0;u1,2;" + item + "m0;", faultOf("m0;u1,2;" + item + "m0;"), 8);
    }

    // ---- section 1

    private static BlindLanterns filledTo(int length) {
        BlindLanterns x = new BlindLanterns();
        for (int left = length; left > 0; left -= 8) {
            x.write(Math.min(8, left), 0);
        }
        due("count(7)", x.count(7), length);
        return x;
    }

    private static void bytesOfAText() {
        sentence("A TEXT is bytes (300 at most)");
        for (int n = 1; n <= 8; n++) {
            due("write(" + n + ", 0) to the last byte", filledTo(300 - n).write(n, 0), 300);
            due("write(" + n + ", 0) past the last byte by one", filledTo(301 - n).write(n, 0), FULL);
            due("write(" + n + ", 0) on a full text", filledTo(300).write(n, 0), FULL);
        }
        String good = men(2) + "s1;".repeat(97) + "s0;";
        BlindLanterns x = written(good);
        due("count(7)", x.count(7), 300);
        due("fault() of 300 bytes", x.fault(), NONE);
        due("lay() of 300 bytes", x.lay(), 2);
        x.bells(1);
        due("lantern(0, 0): the last item counts", x.lantern(0, 0), 0);
        due("fault() of 299 bytes, the last ; wanting", faultOf(good.substring(0, 299)), 297);
        due("fault() of 300 bytes, the last item wrong", faultOf(good.substring(0, 297) + "s6;"), 297);
        due("fault() of 300 bytes, the last byte an item's first", faultOf(men(1) + "s01;".repeat(74) + "m"), 299);
        for (int sign = 0; sign < 256; sign++) {
            boolean isFigure = sign >= '0' && sign <= '2';
            due("fault() of m, byte " + sign + ", ;", faultOf("m" + (char) sign + ";"), isFigure ? NONE : 0);
            boolean isLetter = sign == 'm' || sign == 's';
            due("fault() of byte " + sign + ", 1, ;", faultOf((char) sign + "1;"), isLetter ? NONE : 0);
            due("fault() of s1, byte " + sign, faultOf("s1" + (char) sign), sign == ';' ? NONE : 0);
            due("fault() of u1, byte " + sign + ", 2;", faultOf("u1" + (char) sign + "2;"), sign == ',' ? NONE : 0);
        }
    }

    private static void itemsOfAText() {
        sentence("ITEMS one behind the other, each a letter, numbers (one or two figures) parted by , and ; (behind the last one, too)");
        due("fault() of no item", faultOf(""), NONE);
        String[] good = {"s1;", "s01;", "s00;", "m0;", "m00;", "e0;", "e00;", "o0,1,1;", "o00,01,01;", "d1,0;", "d01,00;", "d60,5;",
            "u0,0;", "u00,00;", "u9,10;", "s1;s1;"};
        for (String item : good) {
            goodItem(item);
        }
        String[] bad = {"s;", "s001;", "s011;", "s000;", "s1,;", "s,1;", "s,;", "s;1;", ";", ";;", ",", "1;", "1", "s 1;", "s1 ;", " s1;", "s1.",
            "s-1;", "s+1;", "s/;", "s:;", "S1;", "ss1;", "s1s;", "u1,2,;", "u1,,2;", "u,1,2;", "u1;2;", "u12;", "u001,2;", "u1,002;",
            "u1,100;", "u1:2;", "o0,001,1;", "o0,1,001;", "o000,1,1;", "o0,1,1,;", "o0,1,;", "o0,,1;", "o,1,1;", "d1,000;", "d001,0;",
            "m0,0;", "m0,0,0;", "e0,0;", "s1,1;", "d1;", "d1,1,1;", "u1;", "u1,2,3;", "o0;", "o0,1;", "o0,1,1,1;", "o0,1,1,1,1;", "s1\n;"};
        for (String item : bad) {
            badItem(item);
        }
        String[] cut = {"s", "s1", "s01", "u1", "u1,", "u1,2", "o0,1,1", "m0", "m", "e0", "d1,1", "d"};
        for (String item : cut) {
            due("fault() of m0;" + item, faultOf("m0;" + item), 3);
            due("fault() of m0;s1;" + item, faultOf("m0;s1;" + item), 6);
        }
        due("fault(): ; is wanting between two", faultOf("m0;s1m0;"), 3);
        due("fault(): one ; too many", faultOf("m0;s1;;m0;"), 6);
    }

    private static void kindsOfMen() {
        sentence("mK a MAN of KIND K (0 TRUE, 1 COLD, 2 MOTH), at POST 0, 1, ..");
        for (String kind : new String[] {"3", "03", "4", "9", "10", "12", "20", "99"}) {
            badItem("m" + kind + ";");
        }
        BlindLanterns x = laid("m2;m02;m1;m01;m0;m00;");
        int[] kinds = {2, 2, 1, 1, 0, 0};
        for (int p = 0; p < 6; p++) {
            due("post(" + p + ", 0)", x.post(p, 0), kinds[p]);
        }
        BlindLanterns apart = laid("s1;m1;u1,2;m2;");
        due("post(0, 0): the first man told", apart.post(0, 0), 1);
        due("post(1, 0)", apart.post(1, 0), 2);
    }

    private static void callsOfOneObject() {
        sentence("An object is used for at most 512 calls after it has been made");
        BlindLanterns x = new BlindLanterns();
        for (int call = 1; call < 512; call++) {
            due("call " + call, x.change(0, 1), call % 2 == 1 ? 1 : 0);
        }
        due("call 512", x.change(0, 2), 2);
    }

    private static void howManyMen() {
        sentence("(6 at most), who has a LANTERN at first");
        due("fault() of six men", faultOf(men(6)), NONE);
        due("lay() of six men", layOf(men(6)), 6);
        due("fault() of seven men", faultOf(men(7)), 18);
        due("fault() of eight men", faultOf(men(8)), 18);
        due("lay() of seven men", layOf(men(7)), NO);
        due("fault(): the seventh behind others", faultOf("s1;" + men(6) + "o5,1,1;e5;s2;m2;"), 34);
        due("fault(): others behind six men", faultOf(men(6) + "o5,1,1;e5;s2;"), NONE);
    }

    private static void lanternsAtFirst() {
        sentence("who has a LANTERN at first: that of his number, not lit, without oil");
        for (int men = 2; men <= 6; men++) {
            BlindLanterns x = laid(men(men));
            for (int i = 0; i < men; i++) {
                same("lantern " + i + " of " + men, lanternOf(x, i), i + ",0,0");
                due("lantern(" + i + ", 3)", x.lantern(i, 3), 0);
                due("post(" + i + ", 1)", x.post(i, 1), i);
            }
            due("dark(0)", x.dark(0), (1 << men) - 1);
        }
        BlindLanterns after = laid(men(6) + "s0;o0,9,1;o1,9,1;o2,9,1;o3,9,1;o4,9,1;e5;");
        due("lay() of other men", layAfter(after, men(6)), 6);
        for (int i = 0; i < 6; i++) {
            same("lantern " + i + ", another pass having been laid", lanternOf(after, i), i + ",0,0");
            due("lantern(" + i + ", 3)", after.lantern(i, 3), 0);
        }
    }

    private static void oilOfWhom() {
        sentence("LANTERN I (of a MAN told ahead) has N oil");
        due("fault(): no man is told", faultOf("o0,1,1;"), 0);
        due("fault(): he is told behind", faultOf("o0,1,1;m0;"), 0);
        for (int men = 1; men <= 6; men++) {
            due("fault(): the last of " + men, faultOf(men(men) + "o" + (men - 1) + ",1,1;"), NONE);
            due("fault(): one more than " + men, faultOf(men(men) + "o" + men + ",1,1;"), 3 * men);
            due("fault(): he is told behind " + men, faultOf(men(men) + "o" + men + ",1,1;m0;"), 3 * men);
        }
        badItem("o6,1,1;");
        badItem("o10,1,1;");
        badItem("o99,1,1;");
    }

    private static void oilHowMuch() {
        sentence("has N oil (0 to 40)");
        for (String n : new String[] {"0", "1", "39", "40", "00", "01"}) {
            goodItem("o0," + n + ",0;");
            due("lantern(0, 1)", laid(men(2) + "o0," + n + ",0;").lantern(0, 1), Integer.parseInt(n));
        }
        badItem("o0,41,0;");
        badItem("o0,41,1;");
        badItem("o0,99,0;");
    }

    private static void oilLitOrNot() {
        sentence("is lit (L 1, N 1 or more) or not (L 0)");
        for (String good : new String[] {"0,0", "1,0", "1,1", "2,1", "40,0", "40,1"}) {
            goodItem("o0," + good + ";");
            due("lantern(0, 2) of " + good, laid(men(2) + "o0," + good + ";").lantern(0, 2), good.endsWith(",1") ? 1 : 0);
        }
        for (String bad : new String[] {"0,1", "00,01", "0,2", "1,2", "2,2", "40,2", "40,10", "40,40", "9,99"}) {
            badItem("o0," + bad + ";");
        }
    }

    private static void cheeses() {
        sentence("LANTERN I (of a MAN told ahead) is a CHEESE");
        due("fault(): no man is told", faultOf("e0;"), 0);
        due("fault(): he is told behind", faultOf("e0;m0;"), 0);
        for (int men = 1; men <= 6; men++) {
            due("fault(): the last of " + men, faultOf(men(men) + "e" + (men - 1) + ";"), NONE);
            due("fault(): one more than " + men, faultOf(men(men) + "e" + men + ";m0;"), 3 * men);
        }
        badItem("e6;");
        badItem("e99;");
        BlindLanterns all = laid(men(6) + "e0;e1;e2;e3;e4;e5;");
        for (int l = 0; l < 6; l++) {
            due("lantern(" + l + ", 3)", all.lantern(l, 3), 1);
        }
    }

    private static void lastOfOilAndCheese() {
        sentence("(the last one of o, e counts for each)");
        String[] told = {"o0,9,1;e0;", "e0;o0,9,1;", "o0,9,1;o0,8,0;", "o0,9,0;o0,1,1;", "e0;o0,9,1;e0;", "e0;e0;", "o0,9,1;o0,0,0;",
            "e0;o0,0,0;", "o0,9,1;e0;o0,7,0;"};
        String[] lanterns = {"0,0,0", "0,9,1", "0,8,0", "0,1,1", "0,0,0", "0,0,0", "0,0,0", "0,0,0", "0,7,0"};
        int[] isCheese = {1, 0, 0, 0, 1, 1, 0, 0, 0};
        for (int i = 0; i < told.length; i++) {
            BlindLanterns x = laid(men(2) + "o1,5,1;" + told[i]);
            same(told[i], lanternOf(x, 0), lanterns[i]);
            due("lantern(0, 3) of " + told[i], x.lantern(0, 3), isCheese[i]);
            same(told[i] + ": for each by itself", lanternOf(x, 1), "1,5,1");
            due("fill(0, 1) of " + told[i], x.fill(0, 1), isCheese[i] == 1 ? NO : x.lantern(0, 1));
        }
    }

    private static void steps() {
        sentence("at each BELL each LANTERN goes S POSTS on (0 to 5; 1 without");
        for (int step = 0; step <= 5; step++) {
            goodItem("s" + step + ";");
            for (int men = 2; men <= 6; men++) {
                BlindLanterns x = laid(men(men) + "s" + step + ";");
                x.bells(1);
                due("lantern(0, 0) by " + step + " of " + men, x.lantern(0, 0), step % men);
            }
        }
        badItem("s6;");
        badItem("s06;");
        badItem("s10;");
        badItem("s99;");
        BlindLanterns without = laid(men(6));
        without.bells(1);
        due("lantern(0, 0) without s", without.lantern(0, 0), 1);
        due("lantern(5, 0) without s", without.lantern(5, 0), 0);
    }

    private static void lastOfSteps() {
        sentence("of several such the last one counts)");
        String[] told = {"s2;s0;", "s0;s2;", "s5;s1;", "s1;s5;", "s3;s3;", "s0;s4;s3;"};
        int[] steps = {0, 2, 1, 5, 3, 3};
        for (int i = 0; i < told.length; i++) {
            BlindLanterns x = laid(told[i] + men(6));
            x.bells(1);
            due("lantern(0, 0) of " + told[i], x.lantern(0, 0), steps[i]);
        }
        due("lay() of a text without s", layAfter(laid(men(6) + "s4;"), men(6)), 6);
        BlindLanterns after = laid(men(6) + "s4;");
        layAfter(after, men(6));
        after.bells(1);
        due("lantern(0, 0): 1 again", after.lantern(0, 0), 1);
    }

    private static void bellsOfDraughts() {
        sentence("a DRAUGHT at BELL B (1 to 60)");
        goodItem("d1,0;");
        goodItem("d60,0;");
        badItem("d0,0;");
        badItem("d00,0;");
        badItem("d61,0;");
        badItem("d99,0;");
        due("dark(1): at BELL 1", laid(men(2) + "o0,9,1;s0;d1,0;").dark(1), 3);
        BlindLanterns x = laid(men(2) + "o0,9,0;s0;d60,0;");
        ringTo(x, 59);
        x.light(0);
        due("dark(0) at BELL 59", x.dark(0), 2);
        due("dark(1): at BELL 60", x.dark(1), 3);
    }

    private static void postsOfDraughts() {
        sentence("at POST P (0 to 5)");
        for (int p = 0; p <= 5; p++) {
            goodItem("d1," + p + ";");
            String text = men(6) + "o" + p + ",9,1;s0;d1," + p + ";";
            due("dark(0) of " + text, laid(text).dark(0), 63 - (1 << p));
            due("dark(1) of " + text, laid(text).dark(1), 63);
        }
        badItem("d1,6;");
        badItem("d1,06;");
        badItem("d1,10;");
        badItem("d60,99;");
    }

    private static void howManyDraughts() {
        sentence("6 at most");
        due("fault() of six draughts", faultOf("d1,0;".repeat(6)), NONE);
        due("fault() of seven draughts", faultOf("d1,0;".repeat(7)), 30);
        due("fault() of seven draughts, all others", faultOf("d1,0;d2,1;d3,2;d4,3;d5,4;d6,5;d7,0;"), 30);
        due("fault(): the seventh behind others", faultOf(men(2) + "d1,0;".repeat(6) + "s1;d2,0;"), 39);
        due("lay() of six draughts", layOf(men(2) + "d1,0;".repeat(6)), 2);
        due("lay() of seven draughts", layOf(men(2) + "d1,0;".repeat(7)), NO);
        BlindLanterns x = laid(men(6) + "o0,9,1;o1,9,1;o2,9,1;o3,9,1;o4,9,1;o5,9,1;s0;d1,0;d2,1;d3,2;d4,3;d5,4;d6,5;");
        for (int n = 0; n <= 6; n++) {
            due("dark(" + n + "): each draught counts", x.dark(n), (1 << n) - 1);
        }
    }

    private static void sun() {
        sentence("THE SUN is out from BELL A to BELL B (0 to 60; A no more than B; none without");
        for (String good : new String[] {"u0,0;", "u0,60;", "u60,60;", "u59,60;", "u7,7;", "u00,07;"}) {
            goodItem(good);
        }
        for (String bad : new String[] {"u1,0;", "u60,59;", "u60,0;", "u0,61;", "u60,61;", "u61,61;", "u61,60;", "u99,99;", "u0,99;"}) {
            badItem(bad);
        }
        sunIs("", 61, 61);
        sunIs("u0,0;", 0, 0);
        sunIs("u60,60;", 60, 60);
        sunIs("u0,60;", 0, 60);
        sunIs("u7,7;", 7, 7);
        sunIs("u7,8;", 7, 8);
    }

    private static void sunIs(String told, int from, int to) {
        BlindLanterns x = laid(men(2) + told);
        for (int n = 0; n <= 60; n++) {
            due("warm(" + n + ", 0) of " + told, x.warm(n, 0), n >= from && n <= to ? 1 : 0);
        }
        ringTo(x, 61);
        due("warm(0, 0) at BELL 61 of " + told, x.warm(0, 0), 0);
    }

    private static void lastOfSuns() {
        sentence("none without; of several such the last one counts)");
        sunIs("u0,60;u3,4;", 3, 4);
        sunIs("u3,4;u0,60;", 0, 60);
        sunIs("u3,4;u8,9;u5,5;", 5, 5);
        BlindLanterns after = laid(men(2) + "u0,60;");
        layAfter(after, men(2));
        due("warm(0, 0): none without, another having been laid", after.warm(0, 0), 0);
    }

    private static void placeOfTheFault() {
        sentence("FAULT: the place (from 0 on) of the first byte of the first ITEM that is not so.");
        due("fault(): the first item", faultOf("x"), 0);
        due("fault(): the item's first byte, not the wrong one", faultOf("m0;o0,40,2;"), 3);
        due("fault(): not the last number's", faultOf("m0;u10,61;"), 3);
        due("fault(): the first of two", faultOf("m0;s6;s7;"), 3);
        due("fault(): the first of two", faultOf("m0;s7;m0"), 3);
        due("fault(): the last item", faultOf("m0;s5;u0,60;d60,5;s6;"), 18);
        due("fault(): good ones do not mend it", faultOf("o0,1,1;m0;o0,1,1;"), 0);
        due("fault(): a wrong man is none", faultOf("m3;o0,1,1;"), 0);
        for (int items = 0; items < 100; items++) {
            due("fault() behind " + items + " items", faultOf("s1;".repeat(items) + "s6;"), 3 * items);
        }
    }

    private static void menOfALaidText() {
        sentence("LAID is a TEXT without FAULT, of two MEN at least");
        due("lay() of nothing", layOf(""), NO);
        due("lay() of no man", layOf("s1;u1,2;"), NO);
        due("lay() of one man", layOf("m0;"), NO);
        due("lay() of one man with all", layOf("m0;o0,5,1;s0;d1,0;u0,1;"), NO);
        for (int men = 2; men <= 6; men++) {
            due("lay() of men", layOf(men(men)), men);
            due("lay() of men, with a fault behind", layOf(men(men) + "m"), NO);
            due("lay() of men, with a fault ahead", layOf(";" + men(men)), NO);
        }
    }

    private static void postsOfALaidText() {
        sentence("whose POSTS of DRAUGHTS there are (NO else");
        for (int men = 2; men <= 6; men++) {
            due("lay(): a draught at the last post of " + men, layOf(men(men) + "d1," + (men - 1) + ";"), men);
            due("lay(): it is told ahead of them", layOf("d1," + (men - 1) + ";" + men(men)), men);
            for (int p = men; p <= 5; p++) {
                String text = men(men) + "d1," + p + ";";
                due("fault() of " + text, faultOf(text), NONE);
                due("lay() of " + text, layOf(text), NO);
                due("lay(): another one behind", layOf(text + "d1,0;"), NO);
                due("lay(): another one ahead", layOf("d1,0;" + text), NO);
                due("lay(): of six the last one", layOf("d1,0;".repeat(5) + text), NO);
            }
        }
    }

    private static void laidAtFirst() {
        sentence("at first m0;m0;m0;o0,5,1;o1,9,0;");
        BlindLanterns told = laid("m0;m0;m0;o0,5,1;o1,9,0;");
        told.wipe();
        same("a new object", allOf(new BlindLanterns()), allOf(told));
    }

    // ---- promises

    private static void newObject() {
        sentence("As told; THE TEXT is empty.");
        BlindLanterns x = new BlindLanterns();
        due("count(7)", x.count(7), 0);
        due("fault()", x.fault(), NONE);
        due("lay()", x.lay(), NO);
        due("wipe()", x.wipe(), 0);
        same("a new object", passOf(x), "0: 0,5,1 1,9,0 2,0,0");
        due("a new object beside a used one", laid(men(6)).count(0) + new BlindLanterns().count(0), 9);
    }

    private static void write() {
        sentence("The lowest n bytes (1 to 8) of v, the highest of these first, come behind THE TEXT: how long it is.");
        String[] items = {"s", "s1", "s1;", "s01;", "u1,2;", "u1,02;", "u01,02;", "s1;u1,2;"};
        long[] above = {0L, -1L, 0x6d6d6d6d6d6d6d6dL, Long.MIN_VALUE};
        for (String item : items) {
            int n = item.length();
            for (long high : above) {
                long v = n == 8 ? 0L : high << 8 * n;
                for (int i = 0; i < n; i++) {
                    v |= (long) item.charAt(i) << 8 * (n - 1 - i);
                }
                BlindLanterns x = written("m0;");
                due("write(" + n + ", " + v + ")", x.write(n, v), 3 + n);
                due("fault() behind write(" + n + ", " + v + ")", x.fault(), item.endsWith(";") ? NONE : 3);
                due("write of the last ;", n == 1 ? x.write(2, '1' << 8 | ';') : x.write(1, ';'), n == 1 ? 6 : 4 + n);
                due("fault()", x.fault(), n <= 2 ? NONE : 3 + n);
            }
        }
        BlindLanterns y = written(men(2));
        due("write(8, -1): bytes 255", y.write(8, -1L), 14);
        due("fault()", y.fault(), 6);
        due("write(1, 371): byte 115", written("m0;").write(1, 371), 4);
        BlindLanterns z = new BlindLanterns();
        z.write(1, 256 + 's');
        z.write(2, 0x73313b73313b0000L | '1' << 8 | ';');
        due("fault(): what is above the lowest bytes is left", z.fault(), NONE);
    }

    private static void writeRefused() {
        sentence("come behind THE TEXT: how long it is. BAD; FULL.");
        for (int n : new int[] {0, -1, 9, 10, 256 + 1, Integer.MIN_VALUE, Integer.MAX_VALUE}) {
            changesNothing("write(" + n + ", s1;)", () -> laid(men(3) + "s2;"), x -> x.write(n, 0x73313b), BAD);
            changesNothing("write(" + n + ", s1;) on a full text", () -> laid("s1;".repeat(98) + men(2)), x -> x.write(n, 0x73313b), BAD);
        }
        String almost = men(2) + "s1;".repeat(97);
        for (int n = 4; n <= 8; n++) {
            int bytes = n;
            changesNothing("write(" + n + ", ..s2;) past the end", () -> laid(almost), x -> x.write(bytes, 0x73323b), FULL);
        }
        BlindLanterns x = laid(almost);
        due("write(4, 0)", x.write(4, 0), FULL);
        due("write(3, s2;): none of the four came", x.write(3, 0x73323b), 300);
        due("fault()", x.fault(), NONE);
        due("write(1, ;)", x.write(1, ';'), FULL);
        due("write(8, ..)", x.write(8, -1L), FULL);
        due("fault()", x.fault(), NONE);
    }

    private static void wipe() {
        sentence("THE TEXT is empty: how long it was.");
        BlindLanterns x = new BlindLanterns();
        due("wipe() of nothing", x.wipe(), 0);
        x.write(1, 'x');
        due("wipe() of one byte", x.wipe(), 1);
        due("wipe() again", x.wipe(), 0);
        due("count(7)", x.count(7), 0);
        BlindLanterns full = filledTo(300);
        due("write(1, 0)", full.write(1, 0), FULL);
        due("wipe() of a full text", full.wipe(), 300);
        due("fault() of nothing", full.fault(), NONE);
        due("lay() of nothing", full.lay(), NO);
        due("write(6, m0;m0;): from the start again", full.write(6, 0x6d303b6d303bL), 6);
        due("fault(): what was there is gone", full.fault(), NONE);
        due("lay()", full.lay(), 2);
        due("wipe()", full.wipe(), 6);
        due("count(0): what is laid stays", full.count(0), 2);
    }

    private static void fault() {
        sentence("FAULT. NONE.");
        BlindLanterns x = laid(men(6) + "o5,9,1;s0;");
        String before = answersOf(x);
        due("wipe()", x.wipe(), 28);
        put(x, "o5,9,1;");
        due("fault(): the men are not those who are laid", x.fault(), 0);
        due("fault() again", x.fault(), 0);
        x.wipe();
        put(x, men(6) + "d1,0;".repeat(6));
        due("fault()", x.fault(), NONE);
        due("fault() again: neither men nor draughts are counted twice", x.fault(), NONE);
        x.wipe();
        put(x, men(6) + "o5,9,1;s0;");
        same("fault() of other texts: the pass stays", answersOf(x), before);
    }

    private static void lay() {
        sentence("LAID: how many MEN; BELL 0, nothing SEEN, UNDONE, KEPT; THE TEXT stays.");
        String text = "m0;m1;m2;o0,9,1;o1,20,0;o2,3,1;d3,0;u2,4;";
        String fresh = allOf(laid(text));
        BlindLanterns x = laid(text);
        for (int i = 0; i < 10; i++) {
            x.seen(0, i, i % 2 == 0);
            x.fill(1, 1);
        }
        x.keep();
        x.bells(99);
        x.change(0, 2);
        x.keep();
        due("lay() of the text that stayed", x.lay(), 3);
        due("count(1)", x.count(1), 0);
        due("count(4)", x.count(4), 0);
        due("count(5)", x.count(5), 0);
        due("count(6)", x.count(6), 0);
        due("count(7)", x.count(7), text.length());
        same("lay() again", allOf(x), fresh);
        BlindLanterns y = laid(men(6));
        due("lay() of fewer men", layAfter(y, men(2)), 2);
        due("lantern(2, 0)", y.lantern(2, 0), BAD);
        due("dark(0)", y.dark(0), 3);
        due("lay() of more men", layAfter(y, men(6)), 6);
        due("lantern(5, 0)", y.lantern(5, 0), 5);
        due("dark(0)", y.dark(0), 63);
    }

    /** Of a TEXT that was laid, or only read, nothing is left in the pass that is laid next. */
    private static void layAfterOthers() {
        sentence("BELL 0, nothing SEEN, UNDONE, KEPT");
        String rich = "m2;m1;m2;m1;m2;o0,40,1;o1,9,1;e2;e3;o4,1,1;s4;" + "d1,0;d2,1;d3,2;d4,3;d5,4;d6,0;u0,60;";
        String poor = men(5) + "o1,40,1;o4,40,1;";
        String freshRich = allOf(laid(rich));
        String freshPoor = allOf(laid(poor));
        for (int before = 1; before <= 3; before++) {
            same("lay() of men behind others, " + before, allOf(behindOthers(rich, poor, poor, before)), freshPoor);
            same("lay() of all behind others, " + before, allOf(behindOthers(rich, poor, rich, before)), freshRich);
        }
    }

    private static BlindLanterns behindOthers(String rich, String poor, String last, int before) {
        BlindLanterns x = new BlindLanterns();
        for (int i = 0; i < before; i++) {
            due("lay() of all", layAfter(x, rich), 5);
            due("lay() of men", layAfter(x, poor), 5);
            if (i % 2 == 1) {
                due("lay() of more men", layAfter(x, men(6) + "d9,5;".repeat(6)), 6);
            }
        }
        due("lay() with a fault", layAfter(x, rich + "x"), NO);
        due("lay() at last", layAfter(x, last), 5);
        return x;
    }

    private static void layRefused() {
        sentence("nothing SEEN, UNDONE, KEPT; THE TEXT stays. NO.");
        for (String text : new String[] {"", "m0;", "m0;m0;m", "m0;m0;d1,2;", men(7), "m0;m0;" + "d1,0;".repeat(7)}) {
            changesNothing("lay() of " + text, () -> livelyPass(text), BlindLanterns::lay, NO);
        }
    }

    /** A pass in which much has been done, with a TEXT that came behind. */
    private static BlindLanterns livelyPass(String text) {
        BlindLanterns x = laid("m0;m1;m2;o0,9,1;o1,20,0;o2,3,1;s2;d3,0;u2,4;");
        x.seen(0, 0, true);
        x.seen(2, 3, false);
        x.fill(1, 40);
        x.keep();
        x.bells(2);
        x.change(0, 2);
        x.keep();
        x.light(1);
        x.wipe();
        put(x, text);
        return x;
    }
}

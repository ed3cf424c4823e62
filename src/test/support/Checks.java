import java.io.IOException;
import java.io.UncheckedIOException;
import java.nio.charset.StandardCharsets;
import java.nio.file.Files;
import java.nio.file.Path;
import java.util.function.Supplier;
import java.util.function.ToIntFunction;

/** What the tests share: answers that are due, texts that are laid, all that can be seen of an object. */
abstract class Checks {
    static final int BAD = -1, NO = -2, FULL = -3, NONE = -4;
    /** Numbers far outside of all that a call takes. */
    static final int[] FAR_OUT = {Integer.MIN_VALUE, Integer.MIN_VALUE + 1, -100, Integer.MAX_VALUE - 1, Integer.MAX_VALUE};

    /** Numbers that no MAN, POST or LANTERN of two bears. */
    static final int[] NONE_OF_TWO = {-1, 2, 5, 6, 31, 32, Integer.MIN_VALUE, Integer.MAX_VALUE};

    private static final Path DOCUMENT = Path.of("../shared/DOC.md");

    private static String document = "";
    private static String about = "";
    private static int readTo = 0;
    private static int wrong = 0;

    static void about(String what) {
        about = what;
    }

    /** The sentence that the next answers test: so it must stand in the document, not ahead of the one tested before. */
    static void sentence(String words) {
        about(words);
        if (document.isEmpty()) {
            document = plain(readDocument());
        }
        int at = document.indexOf(plain(words), readTo);
        if (at < 0) {
            tellWrong("these words do not stand in the document, or ahead of those before");
            return;
        }
        readTo = at;
    }

    private static String readDocument() {
        try {
            return Files.readString(DOCUMENT, StandardCharsets.UTF_8);
        } catch (IOException e) {
            throw new UncheckedIOException(e);
        }
    }

    private static String plain(String words) {
        return words.replaceAll("\\s+", " ");
    }

    private static void tellWrong(String what) {
        wrong++;
        System.out.println("\"" + about + "\": " + what);
    }

    static void due(String call, int got, int want) {
        if (got != want) {
            tellWrong(call + " answered " + got + ", due is " + want);
        }
    }

    static void same(String what, String got, String want) {
        if (!got.equals(want)) {
            tellWrong(what + " left " + got + ", due is " + want);
        }
    }

    static void oddsAre(BlindLanterns x, int l, int above, int below) {
        due("odds(" + l + ", 0)", x.odds(l, 0), above);
        due("odds(" + l + ", 1)", x.odds(l, 1), below);
    }

    /** All that keepLit() tells of one way: the LANTERN at each POST, how many are elsewhere. */
    static void wayIs(BlindLanterns x, int set, int n, int... way) {
        int elsewhere = 0;
        for (int p = 0; p < way.length; p++) {
            due("keepLit(" + set + ", " + n + ", " + p + ")", x.keepLit(set, n, p), way[p]);
            elsewhere += x.post(p, 1) == way[p] ? 0 : 1;
        }
        due("keepLit(" + set + ", " + n + ", -1)", x.keepLit(set, n, -1), elsewhere);
    }

    static void end(String whatHolds) {
        System.out.println(wrong == 0 ? whatHolds : wrong + " answers are not as due");
        if (wrong != 0) {
            System.exit(1);
        }
    }

    // ---- objects

    static void put(BlindLanterns x, String text) {
        for (int at = 0; at < text.length(); at += 8) {
            int n = Math.min(8, text.length() - at);
            long v = 0;
            for (int i = 0; i < n; i++) {
                v = v << 8 | text.charAt(at + i) & 255;
            }
            x.write(n, v);
        }
    }

    static BlindLanterns written(String text) {
        BlindLanterns x = new BlindLanterns();
        put(x, text);
        return x;
    }

    static BlindLanterns laid(String text) {
        BlindLanterns x = written(text);
        due("lay of " + text, x.lay() > 0 ? 1 : 0, 1);
        return x;
    }

    static int faultOf(String text) {
        return written(text).fault();
    }

    static int layOf(String text) {
        return written(text).lay();
    }

    static int layAfter(BlindLanterns x, String text) {
        x.wipe();
        put(x, text);
        return x.lay();
    }

    static String men(int howMany) {
        return "m0;".repeat(howMany);
    }

    /** Rings until it is a BELL. */
    static void ringTo(BlindLanterns x, int bell) {
        for (int left = bell - x.count(1); left > 0; left -= 99) {
            x.bells(Math.min(99, left));
        }
    }

    // ---- what can be seen of an object

    /** The counts, the LANTERNS, what was felt and the text, as far as few calls tell them. */
    static String stateOf(BlindLanterns x) {
        StringBuilder s = new StringBuilder();
        for (int what = 0; what < 8; what++) {
            s.append(x.count(what)).append(' ');
        }
        for (int l = 0; l < x.count(0); l++) {
            s.append(lanternOf(x, l)).append(' ');
        }
        return s.append(x.fits()).append(' ').append(x.fault()).toString();
    }

    /** What undo() and back() bring back. */
    static String passOf(BlindLanterns x) {
        StringBuilder s = new StringBuilder().append(x.count(1)).append(':');
        for (int l = 0; l < x.count(0); l++) {
            s.append(' ').append(lanternOf(x, l));
        }
        return s.toString();
    }

    /** Its POST, oil and light. */
    static String lanternOf(BlindLanterns x, int l) {
        return x.lantern(l, 0) + "," + x.lantern(l, 1) + "," + x.lantern(l, 2);
    }

    /** What the calls that change nothing answer. */
    static String answersOf(BlindLanterns x) {
        StringBuilder s = new StringBuilder(stateOf(x));
        int men = x.count(0);
        for (int i = 0; i < men; i++) {
            s.append(" | ").append(x.lantern(i, 3)).append(' ').append(x.post(i, 0)).append(' ').append(x.post(i, 1)).append(' ');
            s.append(x.post(i, 2)).append(' ').append(x.warm(1, i)).append(' ').append(x.walk(i, 60)).append(' ');
            s.append(x.odds(i, 0)).append(' ').append(x.odds(i, 1)).append(' ');
            s.append(x.keepLit(1 << i, 1, -1)).append(' ').append(x.oil(1 << i, 20));
        }
        s.append(" | ").append(x.dark(0)).append(' ').append(x.dark(1)).append(' ').append(x.dark(60)).append(' ');
        s.append(x.letOut(0)).append(' ').append(x.letOut(1)).append(' ').append(x.coldHands()).append(' ');
        return s.append(x.night(7, 5, 0)).append(' ').append(x.night(7, 60, 1)).toString();
    }

    /** All that can be seen: what is UNDONE, KEPT, SEEN and the text are used up by it. */
    static String allOf(BlindLanterns x) {
        StringBuilder s = new StringBuilder(answersOf(x));
        for (int i = 0; i < 9; i++) {
            s.append("\nundo ").append(x.undo()).append(' ').append(passOf(x));
        }
        for (int i = 0; i < 3; i++) {
            s.append("\nback ").append(x.back()).append(' ').append(passOf(x));
        }
        s.append("\nforget ").append(x.forget()).append(' ').append(x.fits());
        s.append("\nlay ").append(x.lay()).append(' ').append(passOf(x));
        return s.append("\nwipe ").append(x.wipe()).append(' ').append(x.fault()).toString();
    }

    /** Of two objects with one past, one is called: it answers as due, and nothing tells it from the other one then. */
    static void changesNothing(String name, Supplier<BlindLanterns> past, ToIntFunction<BlindLanterns> call, int want) {
        BlindLanterns called = past.get();
        due(name, call.applyAsInt(called), want);
        same(name, allOf(called), allOf(past.get()));
    }
}

import java.io.IOException;
import java.lang.reflect.Constructor;
import java.lang.reflect.Field;
import java.lang.reflect.Method;
import java.lang.reflect.Modifier;
import java.nio.charset.StandardCharsets;
import java.nio.file.Files;
import java.nio.file.Path;
import java.util.Arrays;
import java.util.Set;
import java.util.TreeSet;
import java.util.regex.Matcher;
import java.util.regex.Pattern;

/** That the class shows the document's face and nothing besides, and keeps to what of ../shared/LANGUAGE.md can be seen. */
public final class FaceTests {
    private static final Path DOCUMENT = Path.of("../shared/DOC.md");
    private static final Path SOURCE = Path.of("src/main/java/BlindLanterns.java");
    /** Words that no line of the class may hold: other libraries, what throws, what catches, what LANGUAGE.md leaves out. */
    private static final String[] NEVER_HELD = {"import ", "package ", "catch", "throw ", "try ", "finally", "synchronized", "assert",
        "->", "::", "static {", "equals(", "hashCode(", "toString(", "Exact(", "System.", "Thread", "@"};

    private static int wrong = 0;

    public static void main(String[] args) throws IOException {
        methodsAreTheDocuments();
        onlyTheFaceShows();
        classesInsideKeepToTheirPlace();
        theSourceKeepsToTheLanguage();
        System.out.println(wrong == 0 ? "the face is as due" : wrong + " things are not as due");
        if (wrong != 0) {
            System.exit(1);
        }
    }

    private static void holds(String what, boolean isSo) {
        if (!isSo) {
            wrong++;
            System.out.println("it is not so that " + what);
        }
    }

    private static void methodsAreTheDocuments() throws IOException {
        String document = Files.readString(DOCUMENT, StandardCharsets.UTF_8);
        String face = document.substring(document.indexOf("public final class"), document.indexOf("## Terms"));
        Set<String> due = new TreeSet<>();
        Matcher line = Pattern.compile("public int (\\w+)\\(([^)]*)\\);").matcher(face);
        while (line.find()) {
            due.add(line.group(1) + "(" + line.group(2).replaceAll(" \\w+(,|$)", "$1") + ")int");
        }
        Set<String> got = new TreeSet<>();
        for (Method method : BlindLanterns.class.getDeclaredMethods()) {
            if (!Modifier.isPrivate(method.getModifiers()) && !method.isSynthetic()) {
                String types = Arrays.toString(method.getParameterTypes());
                got.add(method.getName() + "(" + types.substring(1, types.length() - 1) + ")" + method.getReturnType());
                holds(method + " is public and the object's", method.getModifiers() == Modifier.PUBLIC);
            }
        }
        holds("there are 26 methods in the document, but " + due.size(), due.size() == 26);
        holds("the methods " + got + " are " + due, got.equals(due));
    }

    private static void onlyTheFaceShows() {
        Class<?> face = BlindLanterns.class;
        holds("the class is public and final", face.getModifiers() == (Modifier.PUBLIC | Modifier.FINAL));
        Constructor<?>[] makers = face.getDeclaredConstructors();
        holds("there is one constructor", makers.length == 1 && makers[0].getParameterCount() == 0);
        holds("it is public", makers[0].getModifiers() == Modifier.PUBLIC);
        Set<String> shown = new TreeSet<>();
        for (Field field : face.getDeclaredFields()) {
            if (!Modifier.isPrivate(field.getModifiers())) {
                shown.add(field.getName());
                holds(field + " is a constant", Modifier.isStatic(field.getModifiers()) && field.getType() == int.class);
            }
        }
        holds("the constants are " + shown, shown.equals(Set.of("BAD", "NO", "FULL", "NONE")));
        holds("the constants are as told",
            BlindLanterns.BAD == -1 && BlindLanterns.NO == -2 && BlindLanterns.FULL == -3 && BlindLanterns.NONE == -4);
    }

    private static void classesInsideKeepToTheirPlace() {
        Set<String> face = new TreeSet<>();
        for (Method method : BlindLanterns.class.getMethods()) {
            face.add(method.getName());
        }
        Class<?>[] inside = BlindLanterns.class.getDeclaredClasses();
        holds("there are at most twelve classes", inside.length < 12);
        keepsToTheRules(BlindLanterns.class, face);
        for (Class<?> one : inside) {
            holds(one + " is static and not public", Modifier.isStatic(one.getModifiers()) && !Modifier.isPublic(one.getModifiers()));
            keepsToTheRules(one, face);
        }
    }

    private static void keepsToTheRules(Class<?> one, Set<String> namesTaken) {
        int fields = 0;
        for (Field field : one.getDeclaredFields()) {
            boolean isStatic = Modifier.isStatic(field.getModifiers());
            fields += isStatic ? 0 : 1;
            holds(field + " is final, if it is static", !isStatic || Modifier.isFinal(field.getModifiers()));
        }
        holds(one + " has at most twenty fields", fields <= 20);
        for (Method method : one.getDeclaredMethods()) {
            holds(method + " takes at most seven numbers", method.getParameterCount() <= 7);
            holds(method + " bears no name of the face", Modifier.isPublic(method.getModifiers()) || !namesTaken.contains(method.getName()));
        }
    }

    private static void theSourceKeepsToTheLanguage() throws IOException {
        String source = Files.readString(SOURCE, StandardCharsets.ISO_8859_1);
        holds("all signs are plain", source.chars().allMatch(sign -> sign == '\n' || sign >= ' ' && sign < 127));
        String code = source.replaceAll("(?s)/\\*.*?\\*/", "").replaceAll("//[^\n]*", "");
        for (String word : NEVER_HELD) {
            holds("no line holds " + word, !code.contains(word));
        }
        Matcher call = Pattern.compile("\\b(Math|Integer|Long|Arrays|List)\\.(\\w+)").matcher(code);
        Set<String> allowed = Set.of("Math.min", "Math.max", "Math.floorMod", "Integer.bitCount");
        while (call.find()) {
            holds(call.group() + " is one of " + allowed, allowed.contains(call.group()));
        }
        holds("rows stand in Row and Shelf alone", code.split("\\bnew \\w+\\[").length - 1 == 2);
    }
}

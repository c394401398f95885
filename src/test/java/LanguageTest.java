import java.io.IOException;
import java.lang.reflect.Constructor;
import java.lang.reflect.Field;
import java.lang.reflect.Member;
import java.lang.reflect.Method;
import java.lang.reflect.Modifier;
import java.nio.file.Files;
import java.nio.file.Path;
import java.util.Set;
import java.util.TreeSet;

/** The face of the class, and those rules of ../shared/LANGUAGE.md that can be seen from outside or in its words. */
public final class LanguageTest {
    private static final Check CHECK = new Check("LanguageTest");
    private static final String FACE = "all() asks(int,int,int) back() beds(int) better(int,int) cell(int,int,int)"
        + " code(int,int) codes(int,int) copy(int,int,int,int,int) count(int) day(int,int) did(int,int,int) drawn(int,int)"
        + " feed(int,int,int,int,int,int) film(int,int,int) force(int) guard(int,int) hour(int,int,int) image() judge(int,int)"
        + " kinds(int,int,int) knows(int,int) laws(int,int) live() man(int) menBy(int,int,int,int) move(int,int)"
        + " odds(int,int,int,int,int) put(int,int,int) sheet(int,int,int) still(int) swap(int) taken(int,int) text() told(int,int)"
        + " unseen(int,int,int) watches(int) whose(int)";
    private static final String LONGS = "codes odds unseen";
    private static final String CONSTANTS = "BAD FULL NO NONE STATE";
    private static final String[] BANNED = {"throw", "throws", "try", "catch", "finally", "synchronized", "assert", "import",
        "->", "::", "enum", "record", "protected", "native", "volatile", "transient", "System.out", "System.in", "System.exit",
        "Thread", "hashCode", "toString", "equals"};

    public static void main(String[] args) throws IOException {
        face();
        constants();
        classesInside();
        names();
        String source = Files.readString(Path.of("src/main/java/AloneTogether.java"));
        words(source);
        methods(source);
        room();
        CHECK.end();
    }

    private static void yes(String what, boolean is) {
        CHECK.due(what, is ? 1 : 0, 1);
    }

    private static void face() {
        yes("the class is public and final", AloneTogether.class.getModifiers() == (Modifier.PUBLIC | Modifier.FINAL));
        Set<String> seen = new TreeSet<>();
        for (Method method : AloneTogether.class.getDeclaredMethods()) {
            if (Modifier.isPrivate(method.getModifiers())) continue;
            String whole = method.toString();
            seen.add(whole.substring(whole.indexOf(".") + 1));
            boolean isLong = (" " + LONGS + " ").contains(" " + method.getName() + " ");
            yes(method + " answers as told", method.getReturnType() == (isLong ? long.class : int.class));
            yes(method + " is public, not static", method.getModifiers() == Modifier.PUBLIC);
        }
        yes("the methods are " + seen, String.join(" ", seen).equals(FACE));
        Constructor<?>[] constructors = AloneTogether.class.getDeclaredConstructors();
        yes("one constructor", constructors.length == 1 && constructors[0].toString().equals("public AloneTogether()"));
    }

    private static void constants() {
        Set<String> seen = new TreeSet<>();
        int fields = 0;
        for (Field field : AloneTogether.class.getDeclaredFields()) {
            if (Modifier.isPublic(field.getModifiers())) seen.add(field.getName());
            else yes(field + " is private", Modifier.isPrivate(field.getModifiers()));
            if (!Modifier.isStatic(field.getModifiers())) fields++;
        }
        yes("the constants are " + seen, String.join(" ", seen).equals(CONSTANTS));
        yes("some twenty fields", fields <= 20);
        CHECK.due("NONE", AloneTogether.NONE, -1);
        CHECK.due("BAD", AloneTogether.BAD, -2);
        CHECK.due("STATE", AloneTogether.STATE, -3);
        CHECK.due("FULL", AloneTogether.FULL, -4);
        CHECK.due("NO", AloneTogether.NO, -4611686018427387904L);
    }

    private static void classesInside() {
        Class<?>[] inside = AloneTogether.class.getDeclaredClasses();
        yes("some twelve classes", inside.length < 12);
        for (Class<?> one : inside) {
            yes(one + " is static", Modifier.isStatic(one.getModifiers()));
            yes(one + " is private or package-visible", (one.getModifiers() & (Modifier.PUBLIC | Modifier.PROTECTED)) == 0);
            for (Field field : one.getDeclaredFields()) staticIsFinal(field);
        }
        for (Field field : AloneTogether.class.getDeclaredFields()) staticIsFinal(field);
    }

    private static void staticIsFinal(Field field) {
        yes(field + " is final, if static", !Modifier.isStatic(field.getModifiers()) || Modifier.isFinal(field.getModifiers()));
    }

    /** No method of its own bears the name of a public one. */
    private static void names() {
        Set<String> open = new TreeSet<>();
        for (String method : FACE.split(" ")) open.add(method.substring(0, method.indexOf('(')));
        for (Method method : AloneTogether.class.getDeclaredMethods()) notOpen(open, method);
        for (Class<?> one : AloneTogether.class.getDeclaredClasses()) {
            for (Method method : one.getDeclaredMethods()) notOpen(open, method);
        }
    }

    private static void notOpen(Set<String> open, Member method) {
        if (Modifier.isPublic(method.getModifiers())) return;
        yes(method + " has a name of its own", !open.contains(method.getName()));
    }

    private static void words(String source) {
        String code = source.replaceAll("(?s)/\\*.*?\\*/|//[^\n]*|\"[^\"\n]*\"", " ");
        for (String word : BANNED) {
            boolean isWord = Character.isLetter(word.charAt(0));
            String pattern = isWord ? "(?s).*\\b" + word.replace(".", "\\.") + "\\b.*" : "(?s).*" + word + ".*";
            yes("no " + word, !code.matches(pattern));
        }
        yes("no package line", !code.matches("(?s).*\\bpackage\\b.*"));
    }

    /** Methods have some sixty lines at most, and seven parameters. */
    private static void methods(String source) {
        int opened = 0, line = 0;
        for (String text : source.split("\n")) {
            line++;
            if (text.matches(" {4}( {4})?[^ /*].*\\) \\{")) opened = line;
            if (text.matches(" {4}( {4})?\\}") && opened > 0) yes("the method at " + opened + " is short", line - opened <= 60);
        }
        for (Class<?> one : AloneTogether.class.getDeclaredClasses()) {
            for (Method method : one.getDeclaredMethods()) yes(method + " is narrow", method.getParameterCount() <= 7);
        }
        for (Method method : AloneTogether.class.getDeclaredMethods()) yes(method + " is narrow", method.getParameterCount() <= 7);
    }

    /** All calls of a run live in one room: what is made is made in the constructor, the dearest calls make nothing. */
    private static void room() {
        long before = made();
        AloneTogether x = new AloneTogether();
        long object = made() - before;
        yes("a new object is small: " + object + " bytes", object < 20000);
        for (int m = 0; m < 6; m++) x.man(10 * m + m);
        x.watches(4095);
        Check.row(x, 0, 1, 0, 0, 0);
        dearest(x);
        before = made();
        for (int i = 0; i < 20; i++) dearest(x);
        long calls = made() - before;
        yes("calls make nothing: " + calls + " bytes", calls < 20000);
    }

    private static long made() {
        java.lang.management.ThreadMXBean threads = java.lang.management.ManagementFactory.getThreadMXBean();
        return ((com.sun.management.ThreadMXBean) threads).getCurrentThreadAllocatedBytes();
    }

    private static void dearest(AloneTogether x) {
        x.better(0, 0);
        x.swap(0);
        x.beds(0);
        x.guard(3, 0);
        x.codes(0, 12);
        x.still(0);
        x.unseen(0, 8, 0);
        x.kinds(0, 0, 1);
        x.did(0, 0, 0);
        x.laws(0, 0);
        x.whose(0);
        x.film(1, 0, 12);
        x.odds(0, 40, 5, 100, 0);
        x.image();
        x.back();
        x.live();
        x.sheet(2, 2, 40);
        x.feed(5, 'c', 'o', 'u', 'n', 't');
        x.text();
    }
}

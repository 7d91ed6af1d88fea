import java.io.IOException;
import java.lang.reflect.Constructor;
import java.lang.reflect.Field;
import java.lang.reflect.Method;
import java.lang.reflect.Modifier;
import java.nio.file.Files;
import java.nio.file.Path;
import java.util.Arrays;
import java.util.Set;
import java.util.TreeSet;
import java.util.regex.Pattern;

/** The public face of the document, and what of LANGUAGE.md a text search can see. */
public final class FaceTest {
    private static final String[] METHODS = {
        "int sort(int, int, int, int)", "int lot(int, int, int, int, int, int)", "int open(int, int)",
        "int about(int, int)", "long silver(int)", "int today(int)", "int feed(long, int)", "int order()",
        "int tell(int, int)", "int force(int, int)", "int pass(int, int, int)", "int light(int, int, int, int)",
        "int pay(int, int)", "int paid(int)", "long credit(int)", "int give(int)", "int lack(int, int)",
        "int road(int, int, int)", "int send(int, int)", "int bring(int, int)", "int melt(int)",
        "int furnace(int, int)", "int refine(int)", "int strike(int, int, int)", "long mint(int, int)",
        "long all()", "int drawn(int, int, int, int)", "int wish(int, int, int)", "int flow()", "int sent()",
        "int count(int)"};

    private static final String[] FORBIDDEN = {
        "\\bthrow\\b", "\\bthrows\\b", "\\btry\\b", "\\bcatch\\b", "\\bsynchronized\\b", "\\bassert\\b",
        "->", "::", "Exact\\b", "\\bpackage\\b", "\\bstatic\\s*\\{", "\\bprotected\\b", "\\bThread\\b",
        "\\bRandom\\b", "System\\.(?!arraycopy)", "[^\\x00-\\x7f]"};

    public static void main(String[] args) throws IOException {
        constants();
        members();
        if (args.length > 0) {
            language(Files.readString(Path.of(args[0])));
        }
        Check.end();
    }

    private static void constants() {
        Check.due("NONE", NewSilver.NONE, -1);
        Check.due("BAD", NewSilver.BAD, -2);
        Check.due("STATE", NewSilver.STATE, -3);
        Check.due("FULL", NewSilver.FULL, -4);
    }

    private static void members() {
        Class<?> face = NewSilver.class;
        Check.holds("the class is public and final",
            Modifier.isPublic(face.getModifiers()) && Modifier.isFinal(face.getModifiers()));
        Set<String> seen = new TreeSet<>();
        Set<String> names = new TreeSet<>();
        for (Method m : face.getDeclaredMethods()) {
            if (Modifier.isPrivate(m.getModifiers())) {
                continue;
            }
            names.add(m.getName());
            String parts = Arrays.toString(m.getParameterTypes());
            seen.add(m.getReturnType() + " " + m.getName() + "(" + parts.substring(1, parts.length() - 1) + ")");
        }
        Check.holds("the methods are the document's: " + seen, seen.equals(new TreeSet<>(Arrays.asList(METHODS))));
        for (Method m : face.getDeclaredMethods()) {
            Check.holds(m + " bears no public name",
                !Modifier.isPrivate(m.getModifiers()) || !names.contains(m.getName()));
        }
        long open = Arrays.stream(face.getDeclaredFields()).filter(f -> !Modifier.isPrivate(f.getModifiers())).count();
        Check.due("fields that are not private", open, 4);
        Check.due("constructors", face.getDeclaredConstructors().length, 1);
        Check.holds("the constructor is public and takes nothing", face.getConstructors().length == 1
            && face.getConstructors()[0].getParameterCount() == 0);
        for (Class<?> inside : face.getDeclaredClasses()) {
            Check.holds(inside + " is static", Modifier.isStatic(inside.getModifiers()));
            Check.holds(inside + " is no public one", !Modifier.isPublic(inside.getModifiers()));
            sizes(inside);
        }
        sizes(face);
        Check.holds("some twelve classes at most", face.getDeclaredClasses().length < 12);
    }

    /** Rules 5 and 11 of LANGUAGE.md. */
    private static void sizes(Class<?> one) {
        int fields = 0;
        for (Field f : one.getDeclaredFields()) {
            boolean constant = Modifier.isStatic(f.getModifiers());
            Check.holds(f + " does not change", !constant || Modifier.isFinal(f.getModifiers()));
            fields += constant ? 0 : 1;
        }
        Check.holds(one + " has some twenty fields at most", fields <= 20);
        for (Method m : one.getDeclaredMethods()) {
            Check.holds(m + " takes seven at most", m.getParameterCount() <= 7);
        }
        for (Constructor<?> c : one.getDeclaredConstructors()) {
            Check.holds(c + " takes seven at most", c.getParameterCount() <= 7);
        }
    }

    private static void language(String source) {
        for (String sign : FORBIDDEN) {
            Check.holds("no " + sign + " in the source", !Pattern.compile(sign).matcher(source).find());
        }
        for (String line : source.split("\n")) {
            Check.holds("an import of the list: " + line,
                !line.startsWith("import") || line.equals("import java.util.Arrays;"));
        }
    }
}

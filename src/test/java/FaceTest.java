import java.io.IOException;
import java.lang.reflect.Constructor;
import java.lang.reflect.Field;
import java.lang.reflect.Method;
import java.lang.reflect.Modifier;
import java.nio.file.Files;
import java.nio.file.Path;
import java.util.ArrayList;
import java.util.List;
import java.util.Set;
import java.util.TreeSet;
import java.util.regex.Matcher;
import java.util.regex.Pattern;

/** The face of the class, and those rules of the language that its text can tell. */
public final class FaceTest {
    private static final Check CHECK = new Check("FaceTest");
    private static final String[] FACE = {
        "int points(int)", "int line(int,int,int,int)", "int told(int,int)", "int set(int,int)", "int turns(int,int)", "int drop(int)",
        "int tide(int)", "int between(int,int)", "int near(int,int)", "long counts(int,int)", "long coef(int,int)", "long sum(int,int)",
        "int likely(int,int)", "long mean(int,int,int)", "long spread(int,int,int)", "long meanAs(int,int,int)", "int most(int)",
        "long other(int)", "long alone(int,int,int,int)", "int tree(int,int)", "int node(int,int)", "long share(int,int,int)",
        "int cutOff(int,int,int,int)", "int sign(int,int,int)", "int changes(int,int,int,int)", "int isPairing(long)", "long worth(long)",
        "long listed(int,int)", "long lot(int,int)", "int rack(int,int,int)", "int lay(int,int,int)", "int of(int,int)",
        "int sheet(int,int,int)", "int cell(int,int,long)", "long read(int,int,int)", "int parts(int,int,int)", "int writes(int,int)",
        "int same(int,int)", "int copy(int,int,int,int,int)", "int build(int,int,int)", "int image()", "int back()", "int count(int)"};

    public static void main(String[] args) throws IOException {
        constants();
        members();
        text(Files.readString(Path.of(args[0])));
        CHECK.end();
    }

    private static void constants() {
        CHECK.due("NONE", PairedLines.NONE, -1);
        CHECK.due("BAD", PairedLines.BAD, -2);
        CHECK.due("STATE", PairedLines.STATE, -3);
        CHECK.due("FULL", PairedLines.FULL, -4);
        CHECK.due("MUCH", PairedLines.MUCH, -5);
        CHECK.due("NOTHING", PairedLines.NOTHING, -11);
        CHECK.due("PLACE", PairedLines.PLACE, -12);
        CHECK.due("KIND", PairedLines.KIND, -13);
        CHECK.due("SIZE", PairedLines.SIZE, -14);
        CHECK.due("NO", PairedLines.NO, -4611686018427387904L);
    }

    private static String told(Method m) {
        List<String> takes = new ArrayList<>();
        for (Class<?> c : m.getParameterTypes()) {
            takes.add(c.getSimpleName());
        }
        return m.getReturnType().getSimpleName() + " " + m.getName() + "(" + String.join(",", takes) + ")";
    }

    private static void members() {
        Set<String> face = new TreeSet<>();
        Set<String> names = new TreeSet<>();
        for (Method m : PairedLines.class.getDeclaredMethods()) {
            if (Modifier.isPublic(m.getModifiers())) {
                face.add(told(m));
                names.add(m.getName());
                CHECK.holds("not static: " + m, !Modifier.isStatic(m.getModifiers()));
            } else {
                CHECK.holds("private: " + m, Modifier.isPrivate(m.getModifiers()));
            }
        }
        CHECK.holds("the methods of the face: " + face, face.equals(new TreeSet<>(List.of(FACE))));
        int shown = 0;
        for (Field f : PairedLines.class.getDeclaredFields()) {
            CHECK.holds("public or private: " + f, Modifier.isPublic(f.getModifiers()) || Modifier.isPrivate(f.getModifiers()));
            shown += Modifier.isPublic(f.getModifiers()) ? 1 : 0;
            CHECK.holds("static ones are final: " + f, !Modifier.isStatic(f.getModifiers()) || Modifier.isFinal(f.getModifiers()));
        }
        CHECK.due("constants of the face", shown, 10);
        Constructor<?>[] made = PairedLines.class.getDeclaredConstructors();
        CHECK.due("constructors", made.length, 1);
        CHECK.due("it takes nothing", made[0].getParameterCount(), 0);
        CHECK.holds("public and final", (PairedLines.class.getModifiers() & (Modifier.PUBLIC | Modifier.FINAL)) == (Modifier.PUBLIC | Modifier.FINAL));
        Class<?>[] inside = PairedLines.class.getDeclaredClasses();
        CHECK.holds("some twelve classes at most", inside.length < 12);
        for (Class<?> c : inside) {
            CHECK.holds("static: " + c, Modifier.isStatic(c.getModifiers()) && !Modifier.isPublic(c.getModifiers()));
            oneInside(c, names);
        }
        privateNames(names);
    }

    private static void oneInside(Class<?> c, Set<String> names) {
        for (Method m : c.getDeclaredMethods()) {
            CHECK.holds("no name of the face: " + m, !names.contains(m.getName()));
            CHECK.holds("seven parameters at most: " + m, m.getParameterCount() <= 7);
        }
        int fields = 0;
        for (Field f : c.getDeclaredFields()) {
            fields += Modifier.isStatic(f.getModifiers()) ? 0 : 1;
        }
        CHECK.holds("some twenty fields: " + c, fields <= 20);
    }

    private static void privateNames(Set<String> names) {
        for (Method m : PairedLines.class.getDeclaredMethods()) {
            CHECK.holds("no name of the face: " + m, Modifier.isPublic(m.getModifiers()) || !names.contains(m.getName()));
        }
    }

    private static void text(String source) {
        String code = source.replaceAll("(?s)/\\*.*?\\*/", "").replaceAll("//[^\n]*", "");
        String[] barred = {"->", "::", "\\bpackage\\b", "\\btry\\b", "\\bcatch\\b", "\\bfinally\\b", "\\bthrow\\b", "\\bsynchronized\\b", "\\bassert\\b",
            "\\bwhile\\b", "\\bdo\\b", "Exact\\b", "\\bFloat\\b", "\\bDouble\\b", "MIN_VALUE", "MAX_VALUE", "\\bSystem\\.(?!arraycopy\\b)",
            "\\bArrays\\.(?!fill\\b)", "\\bMath\\.(?!max\\b|min\\b|abs\\b)", "\\bstatic\\s*\\{", "\\bNaN\\b", "\\bstrictfp\\b", "\\bprotected\\b", "\""};
        for (String b : barred) {
            CHECK.holds("none of " + b, !Pattern.compile(b).matcher(code).find());
        }
        Matcher imports = Pattern.compile("(?m)^import (.*);$").matcher(code);
        while (imports.find()) {
            CHECK.holds("import " + imports.group(1), imports.group(1).equals("java.util.Arrays"));
        }
        for (int i = 0; i < source.length(); i++) {
            if (source.charAt(i) > 126) {
                CHECK.due("a sign beyond 126", source.charAt(i), 126);
            }
        }
        methodsAreShort(code);
    }

    /** A method begins at the indent of its class and ends with the brace at the same indent. */
    private static void methodsAreShort(String code) {
        String[] rows = code.split("\n", -1);
        for (int i = 0; i < rows.length; i++) {
            Matcher head = Pattern.compile("^( {4}| {8})(public |private |static |int |long |boolean |void |float |double )[^=;]*\\) \\{$").matcher(rows[i]);
            if (head.matches()) {
                int end = i;
                while (end < rows.length && !rows[end].equals(head.group(1) + "}")) {
                    end++;
                }
                CHECK.holds("some sixty lines: " + rows[i].trim(), end - i < 60);
            }
        }
    }
}

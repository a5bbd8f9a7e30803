import java.io.IOException;
import java.lang.reflect.Field;
import java.lang.reflect.Method;
import java.lang.reflect.Modifier;
import java.nio.file.Files;
import java.nio.file.Path;
import java.util.ArrayList;
import java.util.Arrays;
import java.util.List;
import java.util.Set;
import java.util.TreeSet;
import java.util.regex.Matcher;
import java.util.regex.Pattern;

/** The public face of the document, and what can be seen of the rules of LANGUAGE.md. */
public final class FaceTest {
    private static final Check CHECK = new Check("FaceTest");
    private static final String[] FACE = {
        "int append(int,int,int,int,int)", "int truncate(int)", "int load()", "int errorPosition()",
        "int come(int,int,int,int,int)", "int set(int,int,int)", "int first(int)", "int swap(int,int,int)",
        "int move(int,int)", "int ring(int,int,int)", "int settle()", "int station(int)", "int keep(int)",
        "int restore(int)", "int undo()", "int value(int)", "int of(int,int)", "int letter(int,int)", "int at(int)",
        "int table(int,int)", "int family(int,int)", "int ranked(int)", "int why(int,int,int)", "int whyMove(int,int)",
        "int joyAt(int,int)", "int ifSwapped(int,int,int)", "int leastPrice(int,int)", "int bestSeat(int)",
        "int partner(int)", "int rings()", "int ifSettled(int)", "int ifFirst(int)", "int log(int,int)",
        "float full()", "double meanJoy()", "int planLength()", "int planByte(int)", "int setupLength()",
        "int setupByte(int)"};
    private static final String[] BARRED_WORDS = {"->", "::", "\\bimport\\b", "\\bpackage\\b", "\\bfinally\\b",
        "\\btry\\b", "\\bcatch\\b", "\\bthrow\\b", "\\bsynchronized\\b", "\\bassert\\b", "\\binstanceof\\b",
        "\\bequals\\b", "\\bhashCode\\b", "\\btoString\\b", "Exact\\b", "\\bSystem\\b", "\\bRandom\\b", "\\bThread\\b",
        "\\bvolatile\\b", "\\btransient\\b", "\\bnative\\b", "\\bprotected\\b", "\\bstatic \\{"};

    public static void main(String[] args) throws IOException {
        face();
        inside();
        source(Path.of("src/main/java/SeatSwap.java"));
        CHECK.end();
    }

    private static String signature(Method m) {
        StringBuilder text = new StringBuilder(m.getReturnType() + " " + m.getName() + "(");
        for (Class<?> type : m.getParameterTypes()) {
            text.append(text.charAt(text.length() - 1) == '(' ? "" : ",").append(type);
        }
        return text.append(")").toString();
    }

    private static void face() {
        Set<String> open = new TreeSet<>();
        for (Method m : SeatSwap.class.getDeclaredMethods()) {
            if (!Modifier.isPrivate(m.getModifiers())) {
                open.add(signature(m));
                CHECK.that(m + " is public", Modifier.isPublic(m.getModifiers()));
                CHECK.due("exceptions of " + m, m.getExceptionTypes().length, 0);
            }
        }
        CHECK.dueText("methods", open.toString(), new TreeSet<>(Arrays.asList(FACE)).toString());
        Set<String> fields = new TreeSet<>();
        for (Field f : SeatSwap.class.getDeclaredFields()) {
            if (!Modifier.isPrivate(f.getModifiers())) {
                fields.add(f.toString());
            }
        }
        CHECK.dueText("constants", fields.toString(), "[public static final int SeatSwap.BARRED, "
            + "public static final int SeatSwap.FULL, public static final int SeatSwap.INVALID, "
            + "public static final int SeatSwap.NOT_FOUND]");
        CHECK.due("constructors", SeatSwap.class.getDeclaredConstructors().length, 1);
        CHECK.due("modifiers", SeatSwap.class.getModifiers(), Modifier.PUBLIC | Modifier.FINAL);
        CHECK.that("no parent", SeatSwap.class.getSuperclass() == Object.class);
    }

    private static void inside() {
        Set<String> names = new TreeSet<>();
        for (String signature : FACE) {
            names.add(signature.substring(signature.indexOf(' ') + 1, signature.indexOf('(')));
        }
        List<Class<?>> all = new ArrayList<>(Arrays.asList(SeatSwap.class.getDeclaredClasses()));
        CHECK.that("twelve classes at most", all.size() < 12);
        for (Class<?> c : all) {
            CHECK.that(c + " is static", Modifier.isStatic(c.getModifiers()));
            for (Method m : c.getDeclaredMethods()) {
                CHECK.that(m + " bears the name of a public one", !names.contains(m.getName()));
            }
        }
        all.add(SeatSwap.class);
        for (Class<?> c : all) {
            int own = 0;
            for (Field f : c.getDeclaredFields()) {
                if (Modifier.isStatic(f.getModifiers())) {
                    CHECK.that(f + " is a constant", Modifier.isFinal(f.getModifiers()) && f.getType() == int.class);
                } else {
                    own++;
                }
            }
            CHECK.that("fields of " + c, own <= 20);
            for (Method m : c.getDeclaredMethods()) {
                CHECK.that("parameters of " + m, m.getParameterCount() <= 7);
            }
        }
    }

    private static void source(Path file) throws IOException {
        String text = Files.readString(file);
        String code = text.replaceAll("(?s)/\\*.*?\\*/", "").replaceAll("//[^\n]*", "");
        for (String barred : BARRED_WORDS) {
            Matcher m = Pattern.compile(barred).matcher(code);
            CHECK.that("the class says " + barred, !m.find());
        }
        CHECK.that("only signs 1 to 127", text.chars().allMatch(c -> c >= 1 && c <= 127));
        int length = 0;
        boolean made = false;
        for (String line : code.split("\n")) {
            // A method begins at a line that is indented by four or eight and opens a brace.
            if (line.matches(" {4}( {4})?(?!for |if |while |switch )[a-zA-Z].*\\) \\{")) {
                length = 0;
                made = line.matches(" +(public )?[A-Z][A-Za-z]*\\([^)]*\\) \\{");
            }
            length++;
            CHECK.that("a method longer than sixty lines: " + line, length <= 62 || !line.startsWith("        "));
            CHECK.that("an object is made outside a constructor: " + line, made || !line.contains("new "));
        }
    }
}

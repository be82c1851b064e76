import java.lang.reflect.Constructor;
import java.lang.reflect.Field;
import java.lang.reflect.Method;
import java.lang.reflect.Modifier;
import java.nio.file.Files;
import java.nio.file.Path;
import java.util.ArrayList;
import java.util.Arrays;
import java.util.Collections;
import java.util.HashSet;
import java.util.List;
import java.util.Set;
import java.util.regex.Matcher;
import java.util.regex.Pattern;

/** The public face is the document's and no more; the source keeps to the words that LANGUAGE.md leaves. */
public final class FaceTest {
    private static final String[] FACE = {
        "int state(int)", "int person(int,int)", "int horse(int,int,int)", "boolean set(int,int,int)",
        "int buys(int,int,int,int)", "int clasp(int,int,int)", "boolean hand(int,int)", "int days(int)",
        "int feed(int,int,int,int,int)", "boolean end(int)", "int text(int)", "int fault(int)", "int of(int,int)",
        "int horseOf(int,int)", "int passes(int,int,int,int)", "int holds(int,int,int)", "int asks(int,int,int)",
        "int book(int,int)", "int goes(int,int)", "int would(int,int,int,int)", "int told(int,int)",
        "int came(int,int)", "int number(int)", "int could()", "int ring(int)", "int pairs(int)", "int walk(int)",
        "int prices(int,int,int)", "int weight(int)", "int balance(int,int)", "int cold(int,int)",
        "int alike(int,int)", "int herd(int)", "int pens(int,int)", "int left(int,int)", "int signs(int)",
        "int row(int)", "int game(int)", "boolean undo()", "boolean image(boolean)", "int look(int)",
    };
    private static final String[] FORBIDDEN = {
        "throw", "throws", "try", "catch", "finally", "synchronized", "assert", "hashCode", "toString", "native",
        "volatile", "transient", "strictfp", "import", "package", "protected", "double", "float", "Exact",
    };

    private static final Set<String> LIBRARY = Set.of("Math.min", "Math.max", "Math.abs", "Integer.bitCount",
            "Integer.numberOfTrailingZeros", "System.arraycopy");

    public static void main(String[] args) throws Exception {
        face();
        nested();
        source();
        Check.finish();
    }

    private static void face() {
        Class<?> c = ClaspedFair.class;
        Check.due("public and final", Modifier.isPublic(c.getModifiers()) && Modifier.isFinal(c.getModifiers()), true);
        List<String> seen = new ArrayList<>();
        for (Method m : c.getDeclaredMethods()) {
            if (Modifier.isPublic(m.getModifiers())) {
                StringBuilder s = new StringBuilder(m.getReturnType() + " " + m.getName() + "(");
                for (int i = 0; i < m.getParameterCount(); i++) {
                    s.append(i == 0 ? "" : ",").append(m.getParameterTypes()[i]);
                }
                seen.add(s.append(")").toString());
            } else {
                Check.due("private: " + m, m.isSynthetic() || Modifier.isPrivate(m.getModifiers()), true);
            }
        }
        List<String> due = new ArrayList<>(Arrays.asList(FACE));
        Collections.sort(seen);
        Collections.sort(due);
        Check.due("methods " + seen, seen.equals(due), true);
        for (Field f : c.getDeclaredFields()) {
            boolean isNone = f.getName().equals("NONE");
            Check.due("modifier of " + f, Modifier.isPublic(f.getModifiers()), isNone);
            Check.due("private " + f, isNone || Modifier.isPrivate(f.getModifiers()), true);
            Check.due("final " + f, !Modifier.isStatic(f.getModifiers()) || Modifier.isFinal(f.getModifiers()), true);
        }
        Constructor<?>[] made = c.getDeclaredConstructors();
        Check.due("constructors", made.length, 1);
        Check.due("its parameters", made[0].getParameterCount(), 0);
        Check.due("NONE", ClaspedFair.NONE, -1);
    }

    private static void nested() {
        Set<String> faceNames = new HashSet<>();
        for (String s : FACE) {
            faceNames.add(s.substring(s.indexOf(' ') + 1, s.indexOf('(')));
        }
        Class<?>[] inside = ClaspedFair.class.getDeclaredClasses();
        Check.due("some twelve classes", inside.length <= 12, true);
        for (Class<?> c : inside) {
            Check.due("static " + c, Modifier.isStatic(c.getModifiers()), true);
            Check.due("private " + c, Modifier.isPrivate(c.getModifiers()), true);
            int fields = 0;
            for (Field f : c.getDeclaredFields()) {
                fields += Modifier.isStatic(f.getModifiers()) ? 0 : 1;
                Check.due("final " + f, !Modifier.isStatic(f.getModifiers()) || Modifier.isFinal(f.getModifiers()), true);
            }
            Check.due("fields of " + c, fields <= 20, true);
            for (Method m : c.getDeclaredMethods()) {
                Check.due("a name of the face: " + m, faceNames.contains(m.getName()), false);
                Check.due("parameters of " + m, m.getParameterCount() <= 7, true);
            }
        }
    }

    private static void source() throws Exception {
        String text = Files.readString(Path.of("src/main/java/ClaspedFair.java"));
        for (int i = 0; i < text.length(); i++) {
            Check.due("sign " + i, text.charAt(i) < 128, true);
        }
        String code = text.replaceAll("(?s)/\\*.*?\\*/", " ").replaceAll("//[^\n]*", " ")
                .replaceAll("\"[^\"\n]*\"", "\"\"");
        for (String word : FORBIDDEN) {
            Matcher m = Pattern.compile("\\b" + word + "\\b").matcher(code);
            Check.due("the word " + word, m.find(), false);
        }
        Check.due("a lambda or a method's reference", code.contains("->") || code.contains("::"), false);
        Check.due("three dimensions or a list of lists", code.contains("[][]"), false);
        library(code);
        methods(code);
    }

    private static void library(String code) {
        Matcher m = Pattern.compile("\\b(Math|Integer|Long|System|Arrays|String|List)\\.(\\w+)").matcher(code);
        while (m.find()) {
            Check.due("the library's " + m.group(), LIBRARY.contains(m.group()), true);
        }
    }

    /** A method's head is indented by four or eight blanks, its end alike. */
    private static void methods(String code) {
        String head = "(?m)^(    |        )((?:\\w+ )*[\\w\\[\\]]+\\([^;=]*\\)) \\{\\n((?:.*\\n)*?)\\1\\}";
        Matcher m = Pattern.compile(head).matcher(code);
        int seen = 0;
        while (m.find()) {
            seen++;
            int lines = m.group(3).split("\n").length;
            boolean isConstructor = m.group(2).matches("(public )?[A-Z]\\w*\\(.*");
            Check.due("lines of " + m.group(2), lines <= 60, true);
            Check.due("made in " + m.group(2), m.group(3).contains("new ") && !isConstructor, false);
        }
        Check.due("methods seen: " + seen, seen > 120, true);
    }
}

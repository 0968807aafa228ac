import java.io.IOException;
import java.lang.reflect.Constructor;
import java.lang.reflect.Field;
import java.lang.reflect.Method;
import java.lang.reflect.Modifier;
import java.nio.file.Files;
import java.nio.file.Path;
import java.util.ArrayList;
import java.util.Arrays;
import java.util.List;
import java.util.TreeSet;
import java.util.regex.Matcher;
import java.util.regex.Pattern;

/** The public face, and what of LANGUAGE.md can be seen from outside. Runs from the project's folder. */
public final class RulesTest {
    private static final String[] FACE = {
        "agree III", "asked II", "asks I", "best I", "buyer II", "buys II", "chance III", "cheapest I", "clears II",
        "come III", "count I", "crowd I", "dearer II", "end I", "enough I", "fault I", "feed IIIII", "gets II", "hold II",
        "image I", "keeping II", "leap III", "least III", "like IIIII", "lots II", "made III", "mark III", "market ",
        "most I", "odd I", "offered II", "old II", "passing II", "paste IIIII", "poor I", "price II", "queue II",
        "restore I", "rich I", "row III", "seller II", "shape II", "sold II", "spoils II", "stock II", "thursday I",
        "told IIII", "turn ", "village II", "worth II", "write IIJ", "years III"
    };

    private static final String[] FORBIDDEN = {
        "\\bthrow\\b", "\\bthrows\\b", "\\btry\\b", "\\bcatch\\b", "\\bsynchronized\\b", "\\bassert\\b", "->", "::",
        "\\bstatic\\s*\\{", "\\bvar\\b", "\\bprotected\\b", "\\bvolatile\\b", "\\bnative\\b", "\\bThread\\b", "\\bRandom\\b",
        "\\bException\\b", "\\bequals\\s*\\(", "\\bhashCode\\b", "\\bdouble\\b", "\\bfloat\\b", "Exact\\b",
        "System\\.(?!arraycopy)", "Arrays\\.(?!fill\\b|copyOf\\b|copyOfRange\\b)", "Math\\.(?!max\\b|min\\b|abs\\b)", "^package "
    };

    private RulesTest() {
    }

    public static void main(String[] args) throws IOException {
        face();
        nested();
        text(Files.readString(Path.of("src/main/java/YearAgo.java")));
        Check.finish();
    }

    private static void face() {
        Check.promise("the face");
        TreeSet<String> found = new TreeSet<>();
        TreeSet<String> hidden = new TreeSet<>();
        for (Method m : YearAgo.class.getDeclaredMethods()) {
            if (m.isSynthetic()) {
                continue;
            }
            int is = m.getModifiers();
            if (Modifier.isPublic(is)) {
                found.add(m.getName() + " " + signs(m.getParameterTypes()));
                Check.due(m.getName() + " is no int of an object", m.getReturnType() == int.class && !Modifier.isStatic(is) ? 0 : 1, 0);
            } else {
                hidden.add(m.getName());
                Check.due(m.getName() + " is not private", Modifier.isPrivate(is) ? 0 : 1, 0);
            }
        }
        same(found, new TreeSet<>(Arrays.asList(FACE)));
        for (String one : FACE) {
            Check.due("a private method bears the name of " + one, hidden.contains(one.substring(0, one.indexOf(' '))) ? 1 : 0, 0);
        }
        for (Field f : YearAgo.class.getDeclaredFields()) {
            boolean open = f.getName().equals("NONE");
            Check.due(f.getName() + " is seen otherwise", Modifier.isPrivate(f.getModifiers()) != open ? 0 : 1, 0);
        }
        for (Constructor<?> c : YearAgo.class.getDeclaredConstructors()) {
            Check.due("a constructor's numbers", c.getParameterCount(), 0);
            Check.due("a constructor is not public", Modifier.isPublic(c.getModifiers()) ? 0 : 1, 0);
        }
        Check.due("final and public", Modifier.isFinal(YearAgo.class.getModifiers()) && Modifier.isPublic(YearAgo.class.getModifiers()) ? 0 : 1, 0);
    }

    private static String signs(Class<?>[] types) {
        StringBuilder s = new StringBuilder();
        for (Class<?> type : types) {
            s.append(type == int.class ? 'I' : type == long.class ? 'J' : '?');
        }
        return s.toString();
    }

    private static void same(TreeSet<String> found, TreeSet<String> due) {
        TreeSet<String> more = new TreeSet<>(found);
        more.removeAll(due);
        due.removeAll(found);
        Check.due("methods beside the face " + more, more.size(), 0);
        Check.due("methods missing of the face " + due, due.size(), 0);
    }

    private static void nested() {
        Check.promise("classes inside");
        List<Class<?>> all = new ArrayList<>(Arrays.asList(YearAgo.class.getDeclaredClasses()));
        Check.due("more than twelve", all.size() > 12 ? 1 : 0, 0);
        all.add(YearAgo.class);
        for (Class<?> c : all) {
            int is = c.getModifiers();
            boolean inside = c != YearAgo.class;
            Check.due(c + " is not static", !inside || Modifier.isStatic(is) ? 0 : 1, 0);
            Check.due(c + " is public or protected", inside && (Modifier.isPublic(is) || Modifier.isProtected(is)) ? 1 : 0, 0);
            int fields = 0;
            for (Field f : c.getDeclaredFields()) {
                if (Modifier.isStatic(f.getModifiers())) {
                    Check.due(f + " is not final", Modifier.isFinal(f.getModifiers()) ? 0 : 1, 0);
                } else {
                    fields++;
                }
            }
            Check.due(c + " has more than twenty fields", fields > 20 ? 1 : 0, 0);
            for (Method m : c.getDeclaredMethods()) {
                Check.due(m + " has more than seven parameters", m.getParameterCount() > 7 ? 1 : 0, 0);
            }
        }
    }

    private static void text(String text) {
        Check.promise("the text of the program");
        String code = text.replaceAll("(?s)/\\*.*?\\*/", "").replaceAll("//[^\\n]*", "")
            .replaceAll("\"(\\\\.|[^\"\\\\\\n])*\"", "\"\"").replaceAll("'(\\\\.|[^'\\\\\\n])'", "' '");
        for (String one : FORBIDDEN) {
            Matcher m = Pattern.compile(one, Pattern.MULTILINE).matcher(code);
            Check.due("it has " + one, m.find() ? 1 : 0, 0);
        }
        Matcher imports = Pattern.compile("(?m)^import (.*);").matcher(code);
        while (imports.find()) {
            Check.due("it imports " + imports.group(1), imports.group(1).matches("java\\.util\\.(Arrays|ArrayList|List)") ? 0 : 1, 0);
        }
        for (int i = 0; i < text.length(); i++) {
            if (text.charAt(i) > 126 || text.charAt(i) < 32 && text.charAt(i) != '\n') {
                Check.due("a strange sign at " + i, text.charAt(i), ' ');
            }
        }
        methodLengths(text.split("\n"));
    }

    private static void methodLengths(String[] lines) {
        Pattern head = Pattern.compile("( {4,8})[a-zA-Z].*\\) \\{");
        for (int i = 0; i < lines.length; i++) {
            Matcher m = head.matcher(lines[i]);
            if (m.matches()) {
                int end = i;
                while (!lines[end].equals(m.group(1) + "}")) {
                    end++;
                }
                Check.due("over sixty lines: " + lines[i].trim(), end - i + 1 > 60 ? 1 : 0, 0);
            }
        }
    }
}

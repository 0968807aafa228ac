import java.lang.reflect.Constructor;
import java.lang.reflect.Field;
import java.lang.reflect.Method;
import java.lang.reflect.Modifier;
import java.util.Arrays;
import java.util.TreeSet;

/** The public face: all that the document has, and nothing beside it. */
public final class FaceTest {
    private static final String[] FACE = {
        "agree III", "asked II", "asks I", "best I", "buyer II", "buys II", "chance III", "cheapest I", "clears II",
        "come III", "count I", "crowd I", "dearer II", "end I", "enough I", "fault I", "feed IIIII", "gets II", "hold II",
        "image I", "keeping II", "leap III", "least III", "like IIIII", "lots II", "made III", "mark III", "market ",
        "most I", "odd I", "offered II", "old II", "passing II", "paste IIIII", "poor I", "price II", "queue II",
        "restore I", "rich I", "row III", "seller II", "shape II", "sold II", "spoils II", "stock II", "thursday I",
        "told IIII", "turn ", "village II", "worth II", "write IIJ", "years III"
    };

    private FaceTest() {
    }

    public static void main(String[] args) {
        face();
        Check.finish();
    }

    private static void face() {
        Check.promise("the face");
        TreeSet<String> found = new TreeSet<>();
        TreeSet<String> hidden = new TreeSet<>();
        for (Method m : YearAgo.class.getDeclaredMethods()) {
            if (m.isSynthetic()) {
                continue;
            }
            int is = m.getModifiers();
            if (Modifier.isPublic(is)) {
                found.add(m.getName() + " " + signs(m.getParameterTypes()));
                Check.due(m.getName() + " is no int of an object", m.getReturnType() == int.class && !Modifier.isStatic(is) ? 0 : 1, 0);
            } else {
                hidden.add(m.getName());
                Check.due(m.getName() + " is not private", Modifier.isPrivate(is) ? 0 : 1, 0);
            }
        }
        same(found, new TreeSet<>(Arrays.asList(FACE)));
        for (String one : FACE) {
            Check.due("a private method bears the name of " + one, hidden.contains(one.substring(0, one.indexOf(' '))) ? 1 : 0, 0);
        }
        for (Field f : YearAgo.class.getDeclaredFields()) {
            boolean open = f.getName().equals("NONE");
            Check.due(f.getName() + " is seen otherwise", Modifier.isPrivate(f.getModifiers()) != open ? 0 : 1, 0);
        }
        for (Constructor<?> c : YearAgo.class.getDeclaredConstructors()) {
            Check.due("a constructor's numbers", c.getParameterCount(), 0);
            Check.due("a constructor is not public", Modifier.isPublic(c.getModifiers()) ? 0 : 1, 0);
        }
        Check.due("final and public", Modifier.isFinal(YearAgo.class.getModifiers()) && Modifier.isPublic(YearAgo.class.getModifiers()) ? 0 : 1, 0);
    }

    private static String signs(Class<?>[] types) {
        StringBuilder s = new StringBuilder();
        for (Class<?> type : types) {
            s.append(type == int.class ? 'I' : type == long.class ? 'J' : '?');
        }
        return s.toString();
    }

    private static void same(TreeSet<String> found, TreeSet<String> due) {
        TreeSet<String> more = new TreeSet<>(found);
        more.removeAll(due);
        due.removeAll(found);
        Check.due("methods beside the face " + more, more.size(), 0);
        Check.due("methods missing of the face " + due, due.size(), 0);
    }
}

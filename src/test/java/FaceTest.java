import java.lang.reflect.Constructor;
import java.lang.reflect.Field;
import java.lang.reflect.Method;
import java.lang.reflect.Modifier;
import java.util.Arrays;
import java.util.Set;
import java.util.TreeSet;

/** The public face is the document's, and nothing of the class is seen beside it. */
public final class FaceTest {
    private static final Due DUE = new Due("FaceTest");
    private static final String[] FACE = {
        "public ScanDesk(int)",
        "public boolean ScanDesk.skip(long)",
        "public int ScanDesk.add()",
        "public int ScanDesk.build()",
        "public int ScanDesk.count(int)",
        "public int ScanDesk.found()",
        "public int ScanDesk.line(int)",
        "public int ScanDesk.lines()",
        "public int ScanDesk.pick()",
        "public int ScanDesk.picked(int)",
        "public int ScanDesk.put(int)",
        "public int ScanDesk.state()",
        "public int ScanDesk.text(int,int,int,int,int,int)",
        "public int ScanDesk.word(int)",
        "public long ScanDesk.end(int)",
        "public long ScanDesk.place()",
        "public long ScanDesk.steps()",
        "public static final int ScanDesk.NONE",
    };

    public static void main(String[] args) {
        DUE.is("the face", seen().toString(), new TreeSet<>(Arrays.asList(FACE)).toString());
        DUE.is("the class is final", Modifier.isFinal(ScanDesk.class.getModifiers()), true);
        DUE.is("the class is public", Modifier.isPublic(ScanDesk.class.getModifiers()), true);
        for (Field field : ScanDesk.class.getDeclaredFields()) {
            int how = field.getModifiers();
            DUE.is("static means final: " + field, !Modifier.isStatic(how) || Modifier.isFinal(how), true);
        }
        DUE.finish();
    }

    private static Set<String> seen() {
        Set<String> seen = new TreeSet<>();
        for (Constructor<?> made : ScanDesk.class.getDeclaredConstructors()) {
            keep(seen, made.getModifiers(), made.toString());
        }
        for (Method method : ScanDesk.class.getDeclaredMethods()) {
            keep(seen, method.getModifiers(), method.toString());
        }
        for (Field field : ScanDesk.class.getDeclaredFields()) {
            keep(seen, field.getModifiers(), field.toString());
        }
        return seen;
    }

    private static void keep(Set<String> seen, int how, String member) {
        if (!Modifier.isPrivate(how)) {
            seen.add(member);
        }
    }
}

import java.lang.reflect.Constructor;
import java.lang.reflect.Field;
import java.lang.reflect.Method;
import java.lang.reflect.Modifier;
import java.util.ArrayList;
import java.util.Arrays;
import java.util.Collections;
import java.util.HashSet;
import java.util.List;
import java.util.Set;

/** The public face is the document's, and nothing else can be seen. */
public final class FaceTest {
    private static final String[] FACE = {
        "int append(int,int,int,int,int)", "int parse(int) IllegalArgumentException",
        "int load(int) IllegalArgumentException", "int size(int) IllegalArgumentException",
        "int setting(int) IllegalArgumentException",
        "int flat(int,int) IndexOutOfBoundsException,IllegalArgumentException", "int queued(int)",
        "int message(int,int) NoSuchElementException,IllegalArgumentException",
        "int heard(int,int) IndexOutOfBoundsException", "int knowing(int) IndexOutOfBoundsException",
        "int listening(int) IndexOutOfBoundsException", "int mostKnown()", "int cost(int) IllegalArgumentException",
        "int why(int,int) IndexOutOfBoundsException,IllegalArgumentException",
        "int speaksIn(int) IndexOutOfBoundsException", "int freeIn()",
        "int flatIn(int,int) IndexOutOfBoundsException,IllegalArgumentException",
        "int debtIn(int,int) IndexOutOfBoundsException,IllegalArgumentException",
        "int waitIf(int) IndexOutOfBoundsException", "int bestLimit()",
        "int learnsIn(int,int) IndexOutOfBoundsException,IllegalArgumentException",
        "int ifRung(int) IndexOutOfBoundsException", "int account(int) IllegalArgumentException",
        "double meanCall()", "float busyShare()", "int writeHouse()", "int writeSlate()", "char reportAt(int)",
        "int want(int,int) IndexOutOfBoundsException,IllegalArgumentException",
        "int drop(int) IndexOutOfBoundsException", "int hang(int) IndexOutOfBoundsException",
        "int ring(int,int) IndexOutOfBoundsException,IllegalArgumentException",
        "int pay(int,int) IndexOutOfBoundsException,IllegalArgumentException",
        "boolean setCurious(int,boolean) IndexOutOfBoundsException",
        "int set(int,int) IllegalArgumentException", "int pass(int) IllegalArgumentException", "int undo()",
        "boolean saveSnapshot(int) IllegalArgumentException",
        "int restoreSnapshot(int) IllegalArgumentException,NoSuchElementException", "long checksum()",
    };

    private static String names(Class<?>[] types) {
        List<String> names = new ArrayList<>();
        for (Class<?> type : types) {
            names.add(type.getSimpleName());
        }
        return String.join(",", names);
    }

    public static void main(String[] args) {
        Expect expect = new Expect();
        expect.same("modifiers", HallPhone.class.getModifiers(), Modifier.PUBLIC | Modifier.FINAL);
        List<String> seen = new ArrayList<>();
        Set<String> publicNames = new HashSet<>();
        for (Method method : HallPhone.class.getDeclaredMethods()) {
            if (!Modifier.isPrivate(method.getModifiers())) {
                publicNames.add(method.getName());
                seen.add((method.getReturnType().getSimpleName() + " " + method.getName() + "("
                        + names(method.getParameterTypes()) + ") " + names(method.getExceptionTypes())).trim());
            }
        }
        List<String> due = new ArrayList<>(Arrays.asList(FACE));
        Collections.sort(due);
        Collections.sort(seen);
        expect.same("the methods that can be seen", seen, due);
        for (Method method : HallPhone.class.getDeclaredMethods()) {
            if (Modifier.isPrivate(method.getModifiers())) {
                expect.same(method + " bears a public name", publicNames.contains(method.getName()), false);
            }
        }
        for (Field field : HallPhone.class.getDeclaredFields()) {
            boolean isNone = field.getName().equals("NONE");
            expect.same(field + " is private", Modifier.isPrivate(field.getModifiers()), !isNone);
            if (Modifier.isStatic(field.getModifiers())) {
                expect.same(field + " is final", Modifier.isFinal(field.getModifiers()), true);
            }
        }
        Constructor<?>[] made = HallPhone.class.getDeclaredConstructors();
        expect.same("constructors", made.length, 1);
        expect.same("the constructor", made[0].getParameterCount() + " " + made[0].getModifiers(), "0 1");
        expect.same("NONE", HallPhone.NONE, -1);
        expect.end("FaceTest");
    }
}

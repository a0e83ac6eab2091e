import java.lang.reflect.Constructor;
import java.lang.reflect.Executable;
import java.lang.reflect.Field;
import java.lang.reflect.Member;
import java.lang.reflect.Method;
import java.lang.reflect.Modifier;
import java.util.ArrayList;
import java.util.Collections;
import java.util.HashSet;
import java.util.List;
import java.util.Set;

/** The class has the document's face and no other visible member. */
public final class FaceTest {
    private static final String[] FACE = {
        "SubflowBundle(int, int, int)",
        "boolean open(int, int, int)",
        "boolean close(int)",
        "int write(int, int)",
        "boolean finish()",
        "int read()",
        "int pass(int)",
        "boolean delay(int, int)",
        "boolean lose(int, boolean, int)",
        "boolean twice(int, boolean, int, int)",
        "int flight(int, boolean)",
        "int word(int, boolean, int, int)",
        "int state(int)",
        "int smooth(int)",
        "int timeout(int)",
        "int unacked(int)",
        "int acknowledged()",
        "int received()",
        "int sent(int)",
        "int reinjected()",
        "int token()",
        "int NONE",
        "int OVER",
    };

    private static int wrong = 0;

    public static void main(String[] args) {
        checkFace();
        checkNames();
        checkNested();
        checkStatics();
        System.out.println(wrong == 0 ? "the face is as due" : wrong + " faults");
        if (wrong != 0) {
            System.exit(1);
        }
    }

    private static void fault(String text) {
        wrong++;
        System.out.println(text);
    }

    private static void checkFace() {
        List<String> want = new ArrayList<>(List.of(FACE));
        List<String> got = new ArrayList<>();
        for (Constructor<?> c : SubflowBundle.class.getDeclaredConstructors()) {
            addIfVisible(got, c, "SubflowBundle" + parameters(c));
        }
        for (Method m : SubflowBundle.class.getDeclaredMethods()) {
            addIfVisible(got, m, m.getReturnType().getName() + " " + m.getName() + parameters(m));
        }
        for (Field f : SubflowBundle.class.getDeclaredFields()) {
            addIfVisible(got, f, f.getType().getName() + " " + f.getName());
        }
        Collections.sort(want);
        Collections.sort(got);
        if (!want.equals(got)) {
            fault("the face is " + got + ", due is " + want);
        }
        if (!Modifier.isPublic(SubflowBundle.class.getModifiers())
                || !Modifier.isFinal(SubflowBundle.class.getModifiers())) {
            fault("the class is not public and final");
        }
    }

    private static void addIfVisible(List<String> list, Member member, String text) {
        if (Modifier.isPrivate(member.getModifiers()) || member.isSynthetic()) {
            return;
        }
        list.add(Modifier.isPublic(member.getModifiers()) ? text : "not public: " + text);
    }

    private static String parameters(Executable e) {
        List<String> names = new ArrayList<>();
        for (Class<?> c : e.getParameterTypes()) {
            names.add(c.getName());
        }
        return "(" + String.join(", ", names) + ")";
    }

    private static void checkNames() {
        Set<String> taken = new HashSet<>();
        for (Method m : SubflowBundle.class.getDeclaredMethods()) {
            if (Modifier.isPublic(m.getModifiers())) {
                taken.add(m.getName());
            }
        }
        for (Method m : SubflowBundle.class.getDeclaredMethods()) {
            if (!Modifier.isPublic(m.getModifiers()) && taken.contains(m.getName())) {
                fault("a private method bears the public name " + m.getName());
            }
        }
    }

    private static void checkNested() {
        for (Class<?> c : SubflowBundle.class.getDeclaredClasses()) {
            int mods = c.getModifiers();
            if (!Modifier.isStatic(mods) || Modifier.isPublic(mods) || Modifier.isProtected(mods)) {
                fault("the class " + c.getName() + " is not static or too visible");
            }
        }
    }

    private static void checkStatics() {
        List<Class<?>> all = new ArrayList<>(List.of(SubflowBundle.class.getDeclaredClasses()));
        all.add(SubflowBundle.class);
        for (Class<?> c : all) {
            for (Field f : c.getDeclaredFields()) {
                if (Modifier.isStatic(f.getModifiers()) && !Modifier.isFinal(f.getModifiers())) {
                    fault("the static field " + f.getName() + " is not final");
                }
            }
        }
    }
}

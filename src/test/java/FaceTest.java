import java.lang.reflect.Constructor;
import java.lang.reflect.Field;
import java.lang.reflect.Method;
import java.lang.reflect.Modifier;
import java.util.Set;
import java.util.TreeSet;

/** The public face: just the document's constants, constructor and methods. */
public final class FaceTest {
    private static final String[] FACE = {
        "ReelBarn()",
        "long mount(int,int,int)",
        "long eject(int,int)",
        "long share(int,int,int)",
        "long size(int,int)",
        "long read(int,int,int)",
        "long write(int,int,int,int)",
        "long nudge(int,int,int,int,int)",
        "long tick(int,int,int,boolean)",
        "long blend(int,int,int,int,int,int,boolean)",
        "long hang(int,int,int)",
        "long pin(int,int,int)",
        "long peel(int,int,int)",
        "long spot(int,int,int)",
        "long paint(int,int,int,int)",
        "long span(int,int)",
        "long chart(int,int)",
        "long note(int,int,int)",
        "int tally(int)",
        "static final long NONE",
        "static final long VACANT",
        "static final long BEYOND",
        "static final long NEGATIVE",
        "static final long GREAT",
        "static final long DIVIDED",
        "static final long BARE",
    };

    public static void main(String[] args) {
        Due due = new Due();
        due.is("NONE", ReelBarn.NONE, Due.NONE);
        due.is("VACANT", ReelBarn.VACANT, Due.VACANT);
        due.is("BEYOND", ReelBarn.BEYOND, Due.BEYOND);
        due.is("NEGATIVE", ReelBarn.NEGATIVE, Due.NEGATIVE);
        due.is("GREAT", ReelBarn.GREAT, Due.GREAT);
        due.is("DIVIDED", ReelBarn.DIVIDED, Due.DIVIDED);
        due.is("BARE", ReelBarn.BARE, Due.BARE);

        int kind = ReelBarn.class.getModifiers();
        due.isTrue("the class is public and final", Modifier.isPublic(kind) && Modifier.isFinal(kind));
        Set<String> want = new TreeSet<>(Set.of(FACE));
        Set<String> got = visibleMembers();
        due.isTrue("the face " + got + " is " + want, got.equals(want));
        due.isTrue("no private method bears a public name", privateNamesAreTheirOwn());
        due.end();
    }

    private static Set<String> visibleMembers() {
        Set<String> members = new TreeSet<>();
        for (Constructor<?> c : ReelBarn.class.getDeclaredConstructors()) {
            if (isVisible(c.getModifiers())) {
                members.add(c.getName() + types(c.getParameterTypes()));
            }
        }
        for (Method m : ReelBarn.class.getDeclaredMethods()) {
            if (isVisible(m.getModifiers())) {
                members.add(m.getReturnType() + " " + m.getName() + types(m.getParameterTypes()));
            }
        }
        for (Field f : ReelBarn.class.getDeclaredFields()) {
            if (isVisible(f.getModifiers())) {
                String how = Modifier.toString(f.getModifiers() & ~Modifier.PUBLIC);
                members.add(how + " " + f.getType() + " " + f.getName());
            }
        }
        return members;
    }

    private static boolean isVisible(int modifiers) {
        return !Modifier.isPrivate(modifiers);
    }

    private static String types(Class<?>[] types) {
        StringBuilder text = new StringBuilder("(");
        for (int k = 0; k < types.length; k++) {
            text.append(k == 0 ? "" : ",").append(types[k].getName());
        }
        return text.append(")").toString();
    }

    private static boolean privateNamesAreTheirOwn() {
        Set<String> open = new TreeSet<>();
        Set<String> hidden = new TreeSet<>();
        for (Method m : ReelBarn.class.getDeclaredMethods()) {
            (isVisible(m.getModifiers()) ? open : hidden).add(m.getName());
        }
        hidden.retainAll(open);
        return hidden.isEmpty();
    }
}

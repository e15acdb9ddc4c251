import java.lang.reflect.Constructor;
import java.lang.reflect.Field;
import java.lang.reflect.Method;
import java.lang.reflect.Modifier;
import java.util.Set;
import java.util.TreeSet;

/** The public face is the document's, and no call throws, whatever its arguments and the state. */
public final class FaceTest {
    private static final String[] FACE = {
        "public WaveOffsets()",
        "public static final int WaveOffsets.BAD",
        "public int WaveOffsets.crossing(int,int)",
        "public boolean WaveOffsets.street(int,int,int,int)",
        "public boolean WaveOffsets.cycles(int,int,int)",
        "public boolean WaveOffsets.step(int)",
        "public boolean WaveOffsets.queue(int,int)",
        "public int WaveOffsets.run(int,long)",
        "public boolean WaveOffsets.proved()",
        "public long WaveOffsets.bound(int)",
        "public int WaveOffsets.offset(int)",
        "public int WaveOffsets.green(int,int)",
        "public long WaveOffsets.width(int,int)",
        "public long WaveOffsets.stops(int)",
        "public boolean WaveOffsets.arrive(int,int,int,int)",
        "public long WaveOffsets.delay(int)",
        "public int WaveOffsets.plan(int)",
        "public long WaveOffsets.change(int,int)",
        "public long WaveOffsets.day()",
        "public int WaveOffsets.command(int,int)",
        "public boolean WaveOffsets.fits(int)",
        "public long WaveOffsets.count(int)",
    };
    private static final int[] VALUES = {
        Integer.MIN_VALUE, Integer.MIN_VALUE + 1, -121, -2, -1, 0, 1, 2, 3, 4, 5, 6, 10, 24, 60, 61, 90, 120, 121,
        200, 10000, 10001, Integer.MAX_VALUE - 1, Integer.MAX_VALUE,
    };
    private static int wrong = 0;

    public static void main(String[] args) throws Exception {
        lookAtFace();
        lookAtInsides();
        callWithEverything(0);
        callWithEverything(1);
        callWithEverything(2);
        callWithEverything(5);
        System.out.println(wrong == 0 ? "face: as the document says" : "face: " + wrong + " faults");
        if (wrong != 0) {
            System.exit(1);
        }
    }

    private static void fault(String text) {
        wrong++;
        System.out.println(text);
    }

    private static void lookAtFace() {
        Set<String> due = new TreeSet<>(Set.of(FACE));
        Set<String> seen = new TreeSet<>();
        for (Constructor<?> c : WaveOffsets.class.getDeclaredConstructors()) {
            addUnlessPrivate(seen, c.getModifiers(), c.toString());
        }
        for (Field f : WaveOffsets.class.getDeclaredFields()) {
            addUnlessPrivate(seen, f.getModifiers(), f.toString());
        }
        for (Method m : WaveOffsets.class.getDeclaredMethods()) {
            addUnlessPrivate(seen, m.getModifiers(), m.toString());
        }
        for (String member : due) {
            if (!seen.contains(member)) {
                fault("not in the class: " + member);
            }
        }
        for (String member : seen) {
            if (!due.contains(member)) {
                fault("not in the document: " + member);
            }
        }
        int modifiers = WaveOffsets.class.getModifiers();
        if (!Modifier.isPublic(modifiers) || !Modifier.isFinal(modifiers)) {
            fault("the class is not public and final");
        }
        if (WaveOffsets.BAD != -1) {
            fault("BAD is " + WaveOffsets.BAD);
        }
    }

    private static void addUnlessPrivate(Set<String> seen, int modifiers, String text) {
        if (!Modifier.isPrivate(modifiers)) {
            seen.add(text);
        }
    }

    /** LANGUAGE.md, rules 1, 2, 5 and 11. */
    private static void lookAtInsides() {
        Set<String> names = new TreeSet<>();
        for (Method m : WaveOffsets.class.getDeclaredMethods()) {
            if (Modifier.isPublic(m.getModifiers())) {
                names.add(m.getName());
            }
        }
        Class<?>[] inside = WaveOffsets.class.getDeclaredClasses();
        if (inside.length > 11) {
            fault("too many classes: " + inside.length);
        }
        lookAtMembers(WaveOffsets.class, names);
        for (Class<?> c : inside) {
            if (!Modifier.isStatic(c.getModifiers())) {
                fault("not static: " + c);
            }
            lookAtMembers(c, names);
        }
    }

    private static void lookAtMembers(Class<?> c, Set<String> publicNames) {
        int fields = 0;
        for (Field f : c.getDeclaredFields()) {
            if (!Modifier.isStatic(f.getModifiers())) {
                fields++;
            } else if (!Modifier.isFinal(f.getModifiers())) {
                fault("static and not final: " + f);
            }
        }
        if (fields > 20) {
            fault("too many fields: " + c);
        }
        for (Method m : c.getDeclaredMethods()) {
            if (!Modifier.isPublic(m.getModifiers()) && publicNames.contains(m.getName())) {
                fault("bears the name of a public method: " + m);
            }
            if (m.getParameterCount() > 7) {
                fault("too many parameters: " + m);
            }
        }
    }

    private static WaveOffsets made(int crossings) {
        WaveOffsets x = new WaveOffsets();
        for (int k = 0; k < crossings; k++) {
            x.crossing(20 + k, 30 + k);
        }
        x.cycles(120, 120, 1);
        x.step(60);
        x.run(0, 100L);
        return x;
    }

    private static void callWithEverything(int crossings) throws Exception {
        for (Method m : WaveOffsets.class.getDeclaredMethods()) {
            if (Modifier.isPublic(m.getModifiers())) {
                callWithEverything(m, crossings);
            }
        }
    }

    private static void callWithEverything(Method m, int crossings) {
        int n = m.getParameterCount();
        int[] at = new int[n];
        WaveOffsets x = made(crossings);
        for (long call = 0; ; call++) {
            if (call % 400 == 0) {
                x = made(crossings);
            }
            Object[] values = new Object[n];
            for (int i = 0; i < n; i++) {
                values[i] = m.getParameterTypes()[i] == long.class ? (Object) (long) VALUES[at[i]] : (Object) VALUES[at[i]];
            }
            try {
                m.invoke(x, values);
            } catch (ReflectiveOperationException e) {
                fault(m.getName() + java.util.Arrays.toString(values) + " threw " + e.getCause());
                return;
            }
            int i = 0;
            while (i < n && ++at[i] == VALUES.length) {
                at[i++] = 0;
            }
            if (i == n) {
                return;
            }
        }
    }
}

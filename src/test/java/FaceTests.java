import java.lang.reflect.Constructor;
import java.lang.reflect.Field;
import java.lang.reflect.Method;
import java.lang.reflect.Modifier;
import java.util.Arrays;
import java.util.Set;
import java.util.TreeSet;

/** The public face is the document's, and nothing else of the class can be seen; odd numbers never make a call throw. */
public final class FaceTests {
    private static final String[] FACE = {
        "boolean join(int, int)", "boolean bridge(int, int, int)", "boolean leave(int)", "boolean damage(int)",
        "boolean explore(int, int)", "boolean forget(int, int)", "int route(int, int)", "int open(int, int, int)",
        "boolean close(int)", "boolean offer(int, int)", "int take(int)", "int tick(int)", "int signal(int)",
        "int at(int)", "int monitor(int)", "int node(int, int, int)", "int count(int, int)", "int connection(int, int)"};

    private static final int[] ODD = {Integer.MIN_VALUE, Integer.MIN_VALUE + 1, -13, -1, 13, 255, Integer.MAX_VALUE - 1,
        Integer.MAX_VALUE};

    private static String text(Method m) {
        StringBuilder all = new StringBuilder();
        all.append(m.getReturnType().getName()).append(' ').append(m.getName()).append('(');
        Class<?>[] types = m.getParameterTypes();
        for (int i = 0; i < types.length; i++) {
            all.append(i == 0 ? "" : ", ").append(types[i].getName());
        }
        return all.append(')').toString();
    }

    private static void face(CheckHelp check) {
        check.part("the public face");
        check.yes("final", Modifier.isFinal(RingBridges.class.getModifiers()));
        Set<String> open = new TreeSet<>();
        Set<String> openNames = new TreeSet<>();
        for (Method m : RingBridges.class.getDeclaredMethods()) {
            if (!Modifier.isPrivate(m.getModifiers())) {
                check.yes(m.getName() + " public", Modifier.isPublic(m.getModifiers()));
                open.add(text(m));
                openNames.add(m.getName());
            }
        }
        check.yes("methods " + open, open.equals(new TreeSet<>(Arrays.asList(FACE))));
        for (Method m : RingBridges.class.getDeclaredMethods()) {
            if (Modifier.isPrivate(m.getModifiers())) {
                check.no("private " + m.getName() + " has a public name", openNames.contains(m.getName()));
            }
        }
        for (Field f : RingBridges.class.getDeclaredFields()) {
            check.yes("private " + f.getName(), Modifier.isPrivate(f.getModifiers()));
        }
        Constructor<?>[] makers = RingBridges.class.getConstructors();
        check.due("constructors", makers.length, 1);
        check.due("constructor's parameters", makers[0].getParameterCount(), 0);
    }

    /** What reflection can tell of the rules 1, 2, 5 and 11 of LANGUAGE.md. */
    private static void rules(CheckHelp check) {
        check.part("LANGUAGE.md");
        Class<?>[] inside = RingBridges.class.getDeclaredClasses();
        check.yes("at most twelve classes", inside.length + 1 <= 12);
        shape(check, RingBridges.class);
        for (Class<?> c : inside) {
            check.yes(c.getName() + " static", Modifier.isStatic(c.getModifiers()));
            check.no(c.getName() + " public", Modifier.isPublic(c.getModifiers()));
            check.no(c.getName() + " protected", Modifier.isProtected(c.getModifiers()));
            shape(check, c);
        }
    }

    private static void shape(CheckHelp check, Class<?> c) {
        int fields = 0;
        for (Field f : c.getDeclaredFields()) {
            boolean constant = Modifier.isStatic(f.getModifiers());
            check.yes(f + " final", !constant || Modifier.isFinal(f.getModifiers()));
            fields += constant ? 0 : 1;
        }
        check.yes(c.getName() + " has at most twenty fields", fields <= 20);
        for (Method m : c.getDeclaredMethods()) {
            check.yes(m + " has at most seven parameters", m.getParameterCount() <= 7);
        }
    }

    private static RingBridges busyObject() {
        RingBridges x = new RingBridges();
        x.join(0, 1);
        x.join(0, 2);
        x.join(1, 3);
        x.bridge(0, 0, 1);
        x.tick(20);
        x.explore(1, 3);
        x.tick(30);
        x.open(1, 3, 1);
        x.offer(0, 7);
        x.tick(4);
        return x;
    }

    private static void refuseAll(CheckHelp check, RingBridges x, int u, int v) {
        check.no("join", x.join(u, v) || x.join(u, 4) || x.join(2, v));
        check.no("bridge", x.bridge(u, 0, 1) || x.bridge(1, u, 1) || x.bridge(1, 0, u) || x.bridge(u, v, u));
        check.no("leave", x.leave(u));
        check.no("damage", x.damage(u));
        check.no("explore", x.explore(u, 1) || x.explore(1, u) || x.explore(u, v));
        check.no("forget", x.forget(u, 3) || x.forget(1, u) || x.forget(u, v));
        check.due("route", x.route(u, 3), -1);
        check.due("route", x.route(1, u), -1);
        check.due("open", x.open(u, 3, 0), -1);
        check.due("open", x.open(1, u, 0), -1);
        check.due("open", x.open(1, 3, u), -1);
        check.no("close", x.close(u));
        check.no("offer", x.offer(u, 5));
        if (v < 0 || v > 255) {
            check.no("offer", x.offer(0, v));
        }
        check.due("take", x.take(u), -1);
        check.due("signal", x.signal(u), -1);
        check.due("at", x.at(u), -1);
        check.due("monitor", x.monitor(u), -1);
        check.due("node", x.node(u, 0, 0), -1);
        check.due("node", x.node(0, u, 0), -1);
        check.due("node", x.node(0, 0, u), -1);
        check.due("count", x.count(u, 0), -1);
        check.due("count", x.count(0, u), -1);
        check.due("connection", x.connection(u, 0), -1);
        check.due("connection", x.connection(0, u), -1);
        if (u < 0 || u > 200) {
            check.due("tick", x.tick(u), 54);
        }
    }

    private static void oddNumbers(CheckHelp check) {
        for (int u : ODD) {
            for (int v : ODD) {
                RingBridges x = busyObject();
                String before = CheckHelp.look(x);
                check.part("odd numbers " + u + " and " + v);
                refuseAll(check, x, u, v);
                check.unchanged(before, x);
            }
        }
    }

    public static void main(String[] args) {
        CheckHelp check = new CheckHelp("FaceTests");
        face(check);
        rules(check);
        oddNumbers(check);
        check.end();
    }
}

import java.lang.reflect.Constructor;
import java.lang.reflect.Field;
import java.lang.reflect.Method;
import java.lang.reflect.Modifier;
import java.util.Arrays;
import java.util.Set;
import java.util.TreeSet;

/** The public face: exactly the document's members, and no other that is not private. */
public final class FaceTest {
    private static final String[] FACE = {
        "int addStation(char, int, int, int, int, int) IllegalArgumentException UnsupportedOperationException IllegalStateException",
        "int move(int, int, int) IndexOutOfBoundsException IllegalArgumentException",
        "int setPower(int, int) IndexOutOfBoundsException IllegalArgumentException",
        "int tune(int, int) IndexOutOfBoundsException IllegalArgumentException IllegalStateException",
        "int request(int) IndexOutOfBoundsException IllegalStateException",
        "int release(int) IndexOutOfBoundsException IllegalStateException",
        "int cancel(int) IndexOutOfBoundsException IllegalStateException",
        "int setTurnLimit(int) IllegalArgumentException",
        "int pass(int) IllegalArgumentException",
        "int stations()",
        "int find(char, int) NoSuchElementException",
        "char letter(int) IndexOutOfBoundsException",
        "int digit(int) IndexOutOfBoundsException",
        "int channel(int) IndexOutOfBoundsException",
        "int power(int) IndexOutOfBoundsException",
        "boolean isSpeaking(int) IndexOutOfBoundsException",
        "boolean isWaiting(int) IndexOutOfBoundsException",
        "int minutesSpoken(int) IndexOutOfBoundsException",
        "int minutesReceived(int) IndexOutOfBoundsException",
        "int stationByMinutes(int) NoSuchElementException",
        "int speaker(int) IndexOutOfBoundsException NoSuchElementException",
        "int lineLength(int) IndexOutOfBoundsException",
        "int waiting(int, int) IndexOutOfBoundsException NoSuchElementException",
        "int minutesUntilTurn(int) IndexOutOfBoundsException IllegalStateException",
        "int minutesUntilTurnBySimulation(int) IndexOutOfBoundsException IllegalStateException",
        "boolean canHear(int, int) IndexOutOfBoundsException",
        "boolean isJammed(int) IndexOutOfBoundsException",
        "int jams()",
        "int jamsByChannels()",
        "int hops(int, int) IndexOutOfBoundsException NoSuchElementException",
        "int hopsBySets(int, int) IndexOutOfBoundsException NoSuchElementException",
        "int reachable(int) IndexOutOfBoundsException",
        "int logLength()",
        "int logStation(int) IndexOutOfBoundsException",
        "int logBegin(int) IndexOutOfBoundsException",
        "int logMinutes(int) IndexOutOfBoundsException",
        "int time()",
        "int turnLimit()",
        "double meanPower() ArithmeticException",
        "float airtime() ArithmeticException",
        "boolean isConsistent()",
        "int writeStation(int) IndexOutOfBoundsException",
        "int writeChannel(int) IndexOutOfBoundsException",
        "char charAt(int) IndexOutOfBoundsException",
        "int type(char) IllegalStateException",
        "int run() IllegalArgumentException UnsupportedOperationException",
        "int errorPosition() NoSuchElementException",
        "int failedCommand() NoSuchElementException",
        "int undo() IllegalStateException",
        "int save()",
        "int restore() IllegalStateException",
    };

    public static void main(String[] args) {
        Class<?> net = RadioNet.class;
        Check.same("public and final", Modifier.PUBLIC | Modifier.FINAL, net.getModifiers());
        Constructor<?>[] constructors = net.getDeclaredConstructors();
        Check.same("constructors", 1, constructors.length);
        Check.same("constructor", "public RadioNet()", constructors[0].toString());

        Set<String> face = new TreeSet<>();
        Set<String> names = new TreeSet<>();
        for (Method method : net.getDeclaredMethods()) {
            if (!Modifier.isPrivate(method.getModifiers())) {
                face.add(described(method));
                names.add(method.getName());
            }
        }
        Check.same("face", new TreeSet<>(Arrays.asList(FACE)), face);
        checkPrivate(net, names);
        for (Class<?> inside : net.getDeclaredClasses()) {
            Check.same("static: " + inside, true, Modifier.isStatic(inside.getModifiers()));
            Check.same("public: " + inside, false, Modifier.isPublic(inside.getModifiers()));
            checkPrivate(inside, names);
        }
        Check.end();
    }

    private static String described(Method method) {
        StringBuilder text = new StringBuilder();
        text.append(method.getReturnType().getName()).append(' ').append(method.getName());
        text.append(Arrays.toString(method.getParameterTypes()).replace('[', '(').replace(']', ')'));
        for (Class<?> thrown : method.getExceptionTypes()) {
            text.append(' ').append(thrown.getSimpleName());
        }
        return text.toString();
    }

    /** Fields of the class are private, static fields final, and no private name is a public one. */
    private static void checkPrivate(Class<?> checked, Set<String> names) {
        for (Field field : checked.getDeclaredFields()) {
            int modifiers = field.getModifiers();
            Check.same("private: " + field, true,
                    checked != RadioNet.class || Modifier.isPrivate(modifiers));
            Check.same("static and not final: " + field, false,
                    Modifier.isStatic(modifiers) && !Modifier.isFinal(modifiers));
        }
        for (Method method : checked.getDeclaredMethods()) {
            boolean isFace = checked == RadioNet.class && !Modifier.isPrivate(method.getModifiers());
            Check.same("bears a public name: " + method, false,
                    !isFace && names.contains(method.getName()));
            Check.same("more than seven parameters: " + method, false, method.getParameterCount() > 7);
        }
    }
}

import java.lang.reflect.Constructor;
import java.lang.reflect.Field;
import java.lang.reflect.Method;
import java.lang.reflect.Modifier;
import java.util.ArrayList;
import java.util.Collections;
import java.util.HashSet;
import java.util.List;
import java.util.Set;

/** The face is the document's, and nothing but it can be seen from outside (LANGUAGE.md, rules 1, 5 and 11). */
public final class FaceTest {
    private static final String NSE = " throws NoSuchElementException";
    private static final String IAE = " throws IllegalArgumentException";
    private static final String IOE = " throws IndexOutOfBoundsException";
    private static final String ISE = " throws IllegalStateException";
    private static final String CHANGE =
            NSE + " IllegalArgumentException IllegalStateException UnsupportedOperationException";
    private static final String LICENSE = IAE + " IllegalStateException UnsupportedOperationException";
    private static final String TERM = NSE + " IllegalArgumentException IllegalStateException";
    private static final String PAIR = NSE + " IllegalArgumentException";
    private static final String MOVES = IAE + " UnsupportedOperationException";

    private static final String[] FACE = {
        "int setRadii(int int int)" + IAE + " IllegalStateException",
        "int nearRadius()", "int middleRadius()", "int farRadius()",
        "int license(int int int)" + LICENSE, "int startTrial(int int int)" + LICENSE,
        "int confirm(int int)" + TERM, "int renew(int int)" + TERM, "int close(int)" + NSE,
        "int pass(int)" + IAE + " IllegalStateException",
        "int today()", "int stationCount()", "int licensedCount()", "boolean exists(int)",
        "int stationAt(int)" + IOE, "int stationByExpiry(int)" + IOE,
        "int xOf(int)" + NSE, "int yOf(int)" + NSE, "int channelOf(int)" + NSE, "int expiryOf(int)" + NSE,
        "boolean isOnTrial(int)" + NSE, "int expiredTotal()", "int endedTrials()",
        "int squaredDistance(int int)" + PAIR, "int baseSeparation(int int)" + PAIR,
        "int complaintCount(int int)" + PAIR, "int separation(int int)" + PAIR, "int margin(int int)" + PAIR,
        "int conflictsAt(int int int)" + IAE, "int disturbanceAt(int int int)" + IAE,
        "float meanDisturbance() throws ArithmeticException", "boolean isConsistent()",
        "int openChannels(int int)" + IAE, "int movesFor(int int)" + MOVES, "int movesForByQueue(int int)" + MOVES,
        "int movesToChange(int int)" + CHANGE, "int movesToChangeByQueue(int int)" + CHANGE,
        "int change(int int)" + CHANGE, "int complain(int int)" + CHANGE,
        "int moveCount()" + NSE, "int movedStation(int)" + NSE, "int movedFrom(int)" + NSE, "int movedTo(int)" + NSE,
        "int leastSpan()", "int leastSpanByOrders()", "int usedSpan()",
        "int writeStation(int)" + NSE, "char lineAt(int)" + IOE, "int undo()" + ISE, "int save()",
        "int restore()" + ISE,
    };

    private FaceTest() {
    }

    public static void main(String[] args) {
        Class<?> office = FrequencyOffice.class;
        int modifiers = office.getModifiers();
        Checks.due("a public final class", true, () -> Modifier.isPublic(modifiers) && Modifier.isFinal(modifiers));
        checkConstructors(office);
        checkMethods(office);
        checkFields(office);
        for (Class<?> inner : office.getDeclaredClasses()) {
            checkInner(inner);
        }
        Checks.due("at most twelve classes", true, () -> office.getDeclaredClasses().length < 12);
        Checks.end();
    }

    private static void checkConstructors(Class<?> office) {
        Constructor<?>[] constructors = office.getDeclaredConstructors();
        Checks.due("the constructor stands alone", 1, () -> constructors.length);
        Checks.due("the constructor is public", true, () -> Modifier.isPublic(constructors[0].getModifiers()));
        Checks.due("the constructor has no parameters", 0, () -> constructors[0].getParameterCount());
    }

    private static void checkMethods(Class<?> office) {
        List<String> seen = new ArrayList<>();
        for (Method method : office.getDeclaredMethods()) {
            if (!Modifier.isPrivate(method.getModifiers())) {
                seen.add(describe(method));
            }
        }
        List<String> want = new ArrayList<>(List.of(FACE));
        Collections.sort(want);
        Collections.sort(seen);
        Checks.due("the methods of the face", want, () -> seen);
        checkPrivateNames(office);
    }

    private static String describe(Method method) {
        StringBuilder text = new StringBuilder();
        text.append(Modifier.isPublic(method.getModifiers()) && !Modifier.isStatic(method.getModifiers()) ? "" : "?");
        text.append(method.getReturnType().getSimpleName()).append(' ').append(method.getName()).append('(');
        String gap = "";
        for (Class<?> parameter : method.getParameterTypes()) {
            text.append(gap).append(parameter.getSimpleName());
            gap = " ";
        }
        text.append(')');
        gap = " throws ";
        for (Class<?> thrown : method.getExceptionTypes()) {
            text.append(gap).append(thrown.getSimpleName());
            gap = " ";
        }
        return text.toString();
    }

    private static void checkPrivateNames(Class<?> office) {
        Set<String> names = new HashSet<>();
        for (Method method : office.getMethods()) {
            names.add(method.getName());
        }
        checkPrivateNames(office, names);
        for (Class<?> inner : office.getDeclaredClasses()) {
            checkPrivateNames(inner, names);
        }
    }

    private static void checkPrivateNames(Class<?> owner, Set<String> names) {
        for (Method method : owner.getDeclaredMethods()) {
            boolean apart = Modifier.isPublic(method.getModifiers()) || !names.contains(method.getName());
            Checks.due("the name of " + method, true, () -> apart);
            Checks.due("at most seven parameters: " + method, true, () -> method.getParameterCount() <= 7);
        }
    }

    private static void checkInner(Class<?> inner) {
        Checks.due("not open to all: " + inner, false, () -> Modifier.isPublic(inner.getModifiers())
                || Modifier.isProtected(inner.getModifiers()));
        Checks.due("static: " + inner, true, () -> Modifier.isStatic(inner.getModifiers()));
        checkFields(inner);
    }

    private static void checkFields(Class<?> owner) {
        int own = 0;
        for (Field field : owner.getDeclaredFields()) {
            int modifiers = field.getModifiers();
            Checks.due("private: " + field, true, () -> Modifier.isPrivate(modifiers));
            Checks.due("static fields are final: " + field, true,
                    () -> !Modifier.isStatic(modifiers) || Modifier.isFinal(modifiers));
            own += Modifier.isStatic(modifiers) ? 0 : 1;
        }
        int fields = own;
        Checks.due("at most twenty fields in " + owner, true, () -> fields <= 20);
    }
}

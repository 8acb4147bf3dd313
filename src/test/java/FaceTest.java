import java.lang.reflect.Constructor;
import java.lang.reflect.Field;
import java.lang.reflect.Method;
import java.lang.reflect.Modifier;
import java.util.ArrayList;
import java.util.Arrays;
import java.util.Collections;
import java.util.HashSet;
import java.util.List;
import java.util.Set;

/** The face of the class is the document's, and nothing else can be seen of it. */
public final class FaceTest {
    private static final String[] FACE = {
        "int addStop(int) IllegalArgumentException IllegalStateException",
        "int addLine(int,int) IndexOutOfBoundsException IllegalArgumentException IllegalStateException",
        "int extendLine(int,int) IndexOutOfBoundsException IllegalArgumentException IllegalStateException",
        "int stopCount()",
        "int zoneOf(int) IndexOutOfBoundsException",
        "boolean isTerminus(int) IndexOutOfBoundsException",
        "int lineCount()",
        "int lineLength(int) IndexOutOfBoundsException",
        "int stopAt(int,int) IndexOutOfBoundsException NoSuchElementException",
        "int commonStops(int,int) IndexOutOfBoundsException",
        "int addTram(int) IndexOutOfBoundsException IllegalStateException",
        "int tick()",
        "int tickCount()",
        "int tramCount()",
        "int lineOfTram(int) IndexOutOfBoundsException",
        "int stopOfTram(int) IndexOutOfBoundsException",
        "boolean isForward(int) IndexOutOfBoundsException",
        "int crowdOf(int) IndexOutOfBoundsException",
        "int fullestTram() NoSuchElementException",
        "int arrivalOf(int,int) IndexOutOfBoundsException NoSuchElementException",
        "int arrivalBySimulation(int,int) IndexOutOfBoundsException NoSuchElementException",
        "int addPassenger(int) IndexOutOfBoundsException IllegalStateException",
        "int sellTicket(int,int,int) IndexOutOfBoundsException IllegalArgumentException IllegalStateException",
        "boolean board(int,int) IndexOutOfBoundsException IllegalStateException NoSuchElementException"
            + " UnsupportedOperationException",
        "int alight(int) IndexOutOfBoundsException IllegalStateException",
        "int passengerCount()",
        "int stopOfPassenger(int) IndexOutOfBoundsException",
        "int tramOfPassenger(int) IndexOutOfBoundsException",
        "int ridesOf(int) IndexOutOfBoundsException",
        "boolean isValidIn(int,int) IndexOutOfBoundsException IllegalArgumentException",
        "boolean canBoard(int,int) IndexOutOfBoundsException",
        "boolean isTransfer(int,int) IndexOutOfBoundsException",
        "int addSecret(int) IndexOutOfBoundsException IllegalStateException",
        "int whisper(int,int) IndexOutOfBoundsException IllegalStateException UnsupportedOperationException",
        "int secretCount()",
        "int carrierOf(int) IndexOutOfBoundsException",
        "boolean isTruth(int) IndexOutOfBoundsException",
        "boolean knows(int,int) IndexOutOfBoundsException",
        "int knowerCount(int) IndexOutOfBoundsException",
        "int wisestPassenger(int) NoSuchElementException",
        "int distance(int,int) IndexOutOfBoundsException NoSuchElementException",
        "int distanceByRelaxation(int,int) IndexOutOfBoundsException NoSuchElementException",
        "int changes(int,int) IndexOutOfBoundsException NoSuchElementException",
        "int changesByGrowth(int,int) IndexOutOfBoundsException NoSuchElementException",
        "int writeLine(int) IndexOutOfBoundsException",
        "int writePassenger(int) IndexOutOfBoundsException",
        "char textAt(int) IndexOutOfBoundsException",
        "double meanRides() ArithmeticException",
        "float truthShare() ArithmeticException",
        "boolean isConsistent()",
        "int type(char) IllegalArgumentException IllegalStateException",
        "int execute() IllegalArgumentException IllegalStateException",
        "int errorPosition() NoSuchElementException",
        "int failedCommand() NoSuchElementException",
        "int undo() IllegalStateException",
        "int save()",
        "int restore() IllegalStateException",
    };

    public static void main(String[] args) {
        Check check = new Check();
        check.yes("public", Modifier.isPublic(TramNetwork.class.getModifiers()));
        check.yes("final", Modifier.isFinal(TramNetwork.class.getModifiers()));
        methods(check);
        constructors(check);
        for (Field field : TramNetwork.class.getDeclaredFields()) {
            check.yes("private " + field, Modifier.isPrivate(field.getModifiers()));
        }
        for (Class<?> inner : TramNetwork.class.getDeclaredClasses()) {
            check.yes("static " + inner, Modifier.isStatic(inner.getModifiers()));
            check.no("public " + inner, Modifier.isPublic(inner.getModifiers()));
        }
        check.finish();
    }

    private static void methods(Check check) {
        List<String> seen = new ArrayList<>();
        Set<String> publicNames = new HashSet<>();
        for (Method method : TramNetwork.class.getDeclaredMethods()) {
            if (Modifier.isPublic(method.getModifiers())) {
                seen.add(told(method));
                publicNames.add(method.getName());
            }
        }
        for (Method method : TramNetwork.class.getDeclaredMethods()) {
            if (!Modifier.isPublic(method.getModifiers())) {
                check.yes("private " + method, Modifier.isPrivate(method.getModifiers()));
                check.no("the name of " + method, publicNames.contains(method.getName()));
            }
        }
        List<String> due = new ArrayList<>(Arrays.asList(FACE));
        Collections.sort(due);
        Collections.sort(seen);
        check.same("the public methods", due.toString(), seen.toString());
    }

    private static void constructors(Check check) {
        Constructor<?>[] all = TramNetwork.class.getDeclaredConstructors();
        check.same("the constructors", 1, all.length);
        check.yes("public " + all[0], Modifier.isPublic(all[0].getModifiers()));
        check.same("the constructor's parameters", 0, all[0].getParameterCount());
    }

    private static String told(Method method) {
        StringBuilder text = new StringBuilder();
        text.append(method.getReturnType()).append(' ').append(method.getName()).append('(');
        for (int i = 0; i < method.getParameterCount(); i++) {
            text.append(i > 0 ? "," : "").append(method.getParameterTypes()[i]);
        }
        text.append(')');
        for (Class<?> exception : method.getExceptionTypes()) {
            text.append(' ').append(exception.getSimpleName());
        }
        return text.toString();
    }
}

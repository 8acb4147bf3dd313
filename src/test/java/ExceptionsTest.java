import java.lang.reflect.InvocationTargetException;
import java.lang.reflect.Method;
import java.lang.reflect.Modifier;
import java.util.ArrayList;
import java.util.Arrays;
import java.util.Comparator;
import java.util.List;

/**
 * No call throws anything but what its signature names, whatever its arguments are: runs of calls with numbers near
 * the limits and far outside, on networks with nothing, something and as much as there can be. What the machine
 * throws has classes of its own (an index outside an array is an ArrayIndexOutOfBoundsException), so it would be seen.
 */
public final class ExceptionsTest {
    private static final int RUNS = 800;
    // The scenes have had 150 calls at most.
    private static final int CALLS = 350;
    private static final int[] FAR_OUTSIDE = {Integer.MIN_VALUE, Integer.MIN_VALUE + 1, -65536, -256, -32, -2, -1, 32,
        64, 256, 65536, 1 << 30, Integer.MAX_VALUE - 1, Integer.MAX_VALUE};

    // What makes a network grow and move is called more often, what empties it less often.
    private static final List<String> OFTEN = List.of("board", "alight", "whisper", "tick", "addStop", "addLine",
        "extendLine", "addTram", "addPassenger", "sellTicket", "addSecret");
    private static final List<String> SELDOM = List.of("undo", "restore");
    private static final String TEXT = "tick;stop 1;line 0 1;extend 0 2;tram 0;rider 0;ticket 0 1 9;board 0 0;"
        + "secret 0;whisper 0 1;alight 0;";

    private final Check check;
    private final List<Method> methods = new ArrayList<>();
    private final Scene[] scenes = {Scene.nothing(), Scene.town(), Scene.secrets(5), Scene.full()};
    private int typed;
    private long seed;

    private ExceptionsTest(Check check) {
        this.check = check;
        for (Method method : TramNetwork.class.getDeclaredMethods()) {
            if (Modifier.isPublic(method.getModifiers())) {
                int times = OFTEN.contains(method.getName()) ? 30 : SELDOM.contains(method.getName()) ? 1 : 8;
                for (int time = 0; time < times; time++) {
                    methods.add(method);
                }
            }
        }
        // The machine may tell the methods in any order, and each run of the test shall be the same.
        methods.sort(Comparator.comparing(Method::getName));
    }

    public static void main(String[] args) throws ReflectiveOperationException {
        Check check = new Check();
        ExceptionsTest test = new ExceptionsTest(check);
        for (int run = 0; run < RUNS && check.wrongAnswers() == 0; run++) {
            test.run(run);
        }
        check.finish();
    }

    private int below(int bound) {
        seed = seed * 6364136223846793005L + 1442695040888963407L;
        return (int) ((seed >>> 33) % bound);
    }

    private void run(int run) throws ReflectiveOperationException {
        seed = run * 104729L + 11;
        typed = 0;
        TramNetwork network = scenes[run % scenes.length].make();
        boolean types = below(3) == 0;
        for (int calls = 0; calls < CALLS; calls++) {
            if (types && below(12) > 0) {
                typeNext(network);
            } else {
                callOne(network);
            }
        }
    }

    /** Behind a command the text is executed, or goes on, so that the buffer is full now and then. */
    private void typeNext(TramNetwork network) throws ReflectiveOperationException {
        char character = TEXT.charAt(typed);
        typed = (typed + 1) % TEXT.length();
        if (character == ';' && below(3) == 0) {
            call(network, TramNetwork.class.getMethod("execute"));
        } else {
            call(network, TramNetwork.class.getMethod("type", char.class), character);
        }
    }

    private void callOne(TramNetwork network) throws ReflectiveOperationException {
        Method method = methods.get(below(methods.size()));
        Object[] arguments = new Object[method.getParameterCount()];
        for (int index = 0; index < arguments.length; index++) {
            int number = below(15) == 0 ? FAR_OUTSIDE[below(FAR_OUTSIDE.length)] : below(below(3) == 0 ? 12 : 4);
            arguments[index] = method.getParameterTypes()[index] == char.class ? (Object) (char) number : number;
        }
        call(network, method, arguments);
    }

    private void call(TramNetwork network, Method method, Object... arguments) throws ReflectiveOperationException {
        try {
            method.invoke(network, arguments);
        } catch (InvocationTargetException e) {
            Throwable thrown = e.getCause();
            if (!Arrays.asList(method.getExceptionTypes()).contains(thrown.getClass())) {
                check.complain(method.getName() + Arrays.toString(arguments) + " threw " + thrown + " at "
                    + Arrays.toString(thrown.getStackTrace()));
            }
        }
    }
}

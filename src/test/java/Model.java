import java.util.ArrayList;
import java.util.HashSet;
import java.util.List;
import java.util.NoSuchElementException;
import java.util.Set;
import java.util.TreeSet;
import java.util.regex.Matcher;
import java.util.regex.Pattern;

/**
 * The document once more, written in another way than the program: with lists, sets and exceptions, a whole copy
 * of the state for each modification, and a regular expression for the command texts.
 */
final class Model {
    static final class Tram {
        int line;
        int position;
        boolean forward = true;
    }

    static final class Passenger {
        int stop;
        int tram = -1;
        int rides;
        Set<Integer> zones = new HashSet<>();
        Set<Integer> known = new HashSet<>();
        Set<Integer> carried = new TreeSet<>();
        int leftLine = -1;
        int leftTick;
    }

    static final class World {
        List<Integer> stops = new ArrayList<>();
        List<List<Integer>> lines = new ArrayList<>();
        List<Tram> trams = new ArrayList<>();
        List<Passenger> passengers = new ArrayList<>();
        int secrets;
        int ticks;

        World copy() {
            World copy = new World();
            copy.stops.addAll(stops);
            for (List<Integer> line : lines) {
                copy.lines.add(new ArrayList<>(line));
            }
            for (Tram tram : trams) {
                Tram other = new Tram();
                other.line = tram.line;
                other.position = tram.position;
                other.forward = tram.forward;
                copy.trams.add(other);
            }
            for (Passenger passenger : passengers) {
                Passenger other = new Passenger();
                other.stop = passenger.stop;
                other.tram = passenger.tram;
                other.rides = passenger.rides;
                other.zones.addAll(passenger.zones);
                other.known.addAll(passenger.known);
                other.carried.addAll(passenger.carried);
                other.leftLine = passenger.leftLine;
                other.leftTick = passenger.leftTick;
                copy.passengers.add(other);
            }
            copy.secrets = secrets;
            copy.ticks = ticks;
            return copy;
        }
    }

    private static final String D = " [0-9]";
    private static final String COMMAND = "(stop" + D + "|line" + D + D + "|extend" + D + D + "|tram" + D
        + "|rider" + D + "|ticket" + D + D + D + "|board" + D + D + "|alight" + D + "|secret" + D + "|whisper" + D + D
        + "|tick)";
    private static final Pattern TEXT = Pattern.compile(COMMAND + "(;" + COMMAND + ")*");

    World world = new World();
    private World snapshot;
    private final List<World> past = new ArrayList<>();
    private String buffer = "";
    private String written = "";
    private int errorPosition = -1;
    private int failedCommand = -1;

    private static void in(int index, List<?> list) {
        if (index < 0 || index >= list.size()) {
            throw new IndexOutOfBoundsException();
        }
    }

    private void remember(World before) {
        past.add(before);
        if (past.size() > 8) {
            past.remove(0);
        }
    }

    /** Calls a modification by its name in the command texts. */
    int modify(String name, int... a) {
        World before = world.copy();
        int answer = apply(name, a);
        remember(before);
        return answer;
    }

    boolean wouldSucceed(String name, int... a) {
        World before = world;
        world = before.copy();
        try {
            apply(name, a);
            return true;
        } catch (RuntimeException e) {
            return false;
        } finally {
            world = before;
        }
    }

    private int apply(String name, int... a) {
        switch (name) {
            case "stop":
                return addStop(a[0]);
            case "line":
                return addLine(a[0], a[1]);
            case "extend":
                return extendLine(a[0], a[1]);
            case "tram":
                return addTram(a[0]);
            case "rider":
                return addPassenger(a[0]);
            case "ticket":
                return sellTicket(a[0], a[1], a[2]);
            case "board":
                return board(a[0], a[1]);
            case "alight":
                return alight(a[0]);
            case "secret":
                return addSecret(a[0]);
            case "whisper":
                return whisper(a[0], a[1]);
            case "tick":
                return tick();
            default:
                throw new AssertionError(name);
        }
    }

    private int addStop(int zone) {
        if (zone < 0 || zone > 3) {
            throw new IllegalArgumentException();
        }
        if (world.stops.size() == 10) {
            throw new IllegalStateException();
        }
        world.stops.add(zone);
        return world.stops.size() - 1;
    }

    private int addLine(int first, int second) {
        in(first, world.stops);
        in(second, world.stops);
        if (first == second) {
            throw new IllegalArgumentException();
        }
        if (world.lines.size() == 5) {
            throw new IllegalStateException();
        }
        world.lines.add(new ArrayList<>(List.of(first, second)));
        return world.lines.size() - 1;
    }

    private int extendLine(int line, int stop) {
        in(line, world.lines);
        in(stop, world.stops);
        if (world.lines.get(line).contains(stop)) {
            throw new IllegalArgumentException();
        }
        if (world.lines.get(line).size() == 6) {
            throw new IllegalStateException();
        }
        world.lines.get(line).add(stop);
        return world.lines.get(line).size() - 1;
    }

    private int addTram(int line) {
        in(line, world.lines);
        if (world.trams.size() == 6) {
            throw new IllegalStateException();
        }
        Tram tram = new Tram();
        tram.line = line;
        world.trams.add(tram);
        return world.trams.size() - 1;
    }

    private int tick() {
        world.ticks++;
        int arrived = 0;
        for (Tram tram : world.trams) {
            int length = world.lines.get(tram.line).size();
            tram.position = tram.forward ? tram.position + 1 : tram.position - 1;
            if (tram.position == length - 1) {
                tram.forward = false;
                arrived++;
            } else if (tram.position == 0) {
                tram.forward = true;
                arrived++;
            }
        }
        return arrived;
    }

    private int addPassenger(int stop) {
        in(stop, world.stops);
        if (world.passengers.size() == 8) {
            throw new IllegalStateException();
        }
        Passenger passenger = new Passenger();
        passenger.stop = stop;
        world.passengers.add(passenger);
        return world.passengers.size() - 1;
    }

    private int sellTicket(int number, int zone, int rides) {
        in(number, world.passengers);
        if (zone < 0 || zone > 3 || rides < 1 || rides > 9) {
            throw new IllegalArgumentException();
        }
        Passenger passenger = world.passengers.get(number);
        if (passenger.rides + rides > 20) {
            throw new IllegalStateException();
        }
        passenger.zones.add(zone);
        passenger.rides += rides;
        return passenger.rides;
    }

    boolean isTransfer(int number, int line) {
        in(number, world.passengers);
        in(line, world.lines);
        Passenger passenger = world.passengers.get(number);
        return passenger.tram < 0 && passenger.leftLine >= 0 && passenger.leftLine != line
            && world.ticks <= passenger.leftTick + 1;
    }

    private int board(int number, int tram) {
        in(number, world.passengers);
        in(tram, world.trams);
        Passenger passenger = world.passengers.get(number);
        if (passenger.tram >= 0) {
            throw new IllegalStateException();
        }
        if (passenger.stop != stopOfTram(tram)) {
            throw new NoSuchElementException();
        }
        boolean transfer = isTransfer(number, world.trams.get(tram).line);
        if (!transfer && (passenger.rides == 0 || !passenger.zones.contains(world.stops.get(passenger.stop)))) {
            throw new UnsupportedOperationException();
        }
        passenger.stop = -1;
        passenger.tram = tram;
        if (!transfer) {
            passenger.rides--;
        }
        return transfer ? 0 : 1;
    }

    boolean canBoard(int number, int tram) {
        in(number, world.passengers);
        in(tram, world.trams);
        return wouldSucceed("board", number, tram);
    }

    private int alight(int number) {
        in(number, world.passengers);
        Passenger passenger = world.passengers.get(number);
        if (passenger.tram < 0) {
            throw new IllegalStateException();
        }
        passenger.stop = stopOfTram(passenger.tram);
        passenger.leftLine = world.trams.get(passenger.tram).line;
        passenger.leftTick = world.ticks;
        passenger.tram = -1;
        if (isTerminus(passenger.stop)) {
            passenger.carried.clear();
        }
        return passenger.stop;
    }

    private int addSecret(int number) {
        in(number, world.passengers);
        if (world.secrets == 6) {
            throw new IllegalStateException();
        }
        world.passengers.get(number).known.add(world.secrets);
        world.passengers.get(number).carried.add(world.secrets);
        return world.secrets++;
    }

    private int whisper(int secret, int listener) {
        int carrier = carrierOf(secret);
        in(listener, world.passengers);
        if (carrier < 0) {
            throw new IllegalStateException();
        }
        int tram = world.passengers.get(carrier).tram;
        if (listener == carrier || tram < 0 || tram != world.passengers.get(listener).tram) {
            throw new UnsupportedOperationException();
        }
        world.passengers.get(carrier).carried.remove(secret);
        world.passengers.get(listener).carried.add(secret);
        for (Passenger passenger : world.passengers) {
            if (passenger.tram == tram) {
                passenger.known.add(secret);
            }
        }
        return knowerCount(secret);
    }

    int zoneOf(int stop) {
        in(stop, world.stops);
        return world.stops.get(stop);
    }

    boolean isTerminus(int stop) {
        in(stop, world.stops);
        for (List<Integer> line : world.lines) {
            if (line.get(0) == stop || line.get(line.size() - 1) == stop) {
                return true;
            }
        }
        return false;
    }

    int lineLength(int line) {
        in(line, world.lines);
        return world.lines.get(line).size();
    }

    int stopAt(int line, int position) {
        in(line, world.lines);
        if (position < 0 || position >= world.lines.get(line).size()) {
            throw new NoSuchElementException();
        }
        return world.lines.get(line).get(position);
    }

    int commonStops(int line, int other) {
        in(line, world.lines);
        in(other, world.lines);
        Set<Integer> common = new HashSet<>(world.lines.get(line));
        common.retainAll(world.lines.get(other));
        return common.size();
    }

    int lineOfTram(int tram) {
        in(tram, world.trams);
        return world.trams.get(tram).line;
    }

    int stopOfTram(int tram) {
        in(tram, world.trams);
        return world.lines.get(world.trams.get(tram).line).get(world.trams.get(tram).position);
    }

    boolean isForward(int tram) {
        in(tram, world.trams);
        return world.trams.get(tram).forward;
    }

    int crowdOf(int tram) {
        in(tram, world.trams);
        int crowd = 0;
        for (Passenger passenger : world.passengers) {
            crowd += passenger.tram == tram ? 1 : 0;
        }
        return crowd;
    }

    int fullestTram() {
        for (int crowd = 8; crowd >= 0; crowd--) {
            for (int tram = 0; tram < world.trams.size(); tram++) {
                if (crowdOf(tram) == crowd) {
                    return tram;
                }
            }
        }
        throw new NoSuchElementException();
    }

    /** Lets the whole world tick until the tram is there. */
    int arrival(int tram, int stop) {
        in(tram, world.trams);
        in(stop, world.stops);
        if (!world.lines.get(lineOfTram(tram)).contains(stop)) {
            throw new NoSuchElementException();
        }
        World before = world;
        world = before.copy();
        int passed = 0;
        while (stopOfTram(tram) != stop) {
            tick();
            passed++;
        }
        world = before;
        return passed;
    }

    int stopOfPassenger(int passenger) {
        in(passenger, world.passengers);
        return world.passengers.get(passenger).stop;
    }

    int tramOfPassenger(int passenger) {
        in(passenger, world.passengers);
        return world.passengers.get(passenger).tram;
    }

    int ridesOf(int passenger) {
        in(passenger, world.passengers);
        return world.passengers.get(passenger).rides;
    }

    boolean isValidIn(int passenger, int zone) {
        in(passenger, world.passengers);
        if (zone < 0 || zone > 3) {
            throw new IllegalArgumentException();
        }
        return world.passengers.get(passenger).zones.contains(zone);
    }

    private void inSecrets(int secret) {
        if (secret < 0 || secret >= world.secrets) {
            throw new IndexOutOfBoundsException();
        }
    }

    int carrierOf(int secret) {
        inSecrets(secret);
        for (int passenger = 0; passenger < world.passengers.size(); passenger++) {
            if (world.passengers.get(passenger).carried.contains(secret)) {
                return passenger;
            }
        }
        return -1;
    }

    boolean knows(int passenger, int secret) {
        in(passenger, world.passengers);
        inSecrets(secret);
        return world.passengers.get(passenger).known.contains(secret);
    }

    int knowerCount(int secret) {
        inSecrets(secret);
        int count = 0;
        for (Passenger passenger : world.passengers) {
            count += passenger.known.contains(secret) ? 1 : 0;
        }
        return count;
    }

    int wisestPassenger(int rank) {
        List<Integer> order = new ArrayList<>();
        for (int passenger = 0; passenger < world.passengers.size(); passenger++) {
            order.add(passenger);
        }
        order.sort((one, other) -> Integer.compare(world.passengers.get(other).known.size(),
            world.passengers.get(one).known.size()));
        if (rank < 0 || rank >= order.size()) {
            throw new NoSuchElementException();
        }
        return order.get(rank);
    }

    private static final int FAR = 1000;

    /** The shortest ways between all pairs, where a pair of stops of the same line costs a ride or their steps. */
    private int shortest(int from, int to, boolean rides) {
        in(from, world.stops);
        in(to, world.stops);
        int count = world.stops.size();
        int[][] cost = new int[count][count];
        for (int one = 0; one < count; one++) {
            for (int other = 0; other < count; other++) {
                cost[one][other] = one == other ? 0 : FAR;
            }
        }
        for (List<Integer> line : world.lines) {
            for (int one = 0; one < line.size(); one++) {
                for (int other = 0; other < line.size(); other++) {
                    int way = rides && one != other ? 1 : Math.abs(one - other);
                    int a = line.get(one);
                    int b = line.get(other);
                    cost[a][b] = Math.min(cost[a][b], way);
                }
            }
        }
        for (int middle = 0; middle < count; middle++) {
            for (int one = 0; one < count; one++) {
                for (int other = 0; other < count; other++) {
                    cost[one][other] = Math.min(cost[one][other], cost[one][middle] + cost[middle][other]);
                }
            }
        }
        if (cost[from][to] >= FAR) {
            throw new NoSuchElementException();
        }
        return cost[from][to];
    }

    int distance(int from, int to) {
        return shortest(from, to, false);
    }

    int changes(int from, int to) {
        return Math.max(0, shortest(from, to, true) - 1);
    }

    int writeLine(int line) {
        in(line, world.lines);
        List<String> names = new ArrayList<>();
        for (int stop : world.lines.get(line)) {
            names.add(Integer.toString(stop));
        }
        written = String.join("-", names);
        return written.length();
    }

    int writePassenger(int number) {
        in(number, world.passengers);
        Passenger passenger = world.passengers.get(number);
        String text = number + (passenger.tram < 0 ? "@" + passenger.stop : ">" + passenger.tram);
        text += "r" + passenger.rides;
        for (int secret : passenger.carried) {
            text += "s" + secret;
        }
        written = text;
        return text.length();
    }

    char textAt(int index) {
        if (index < 0 || index >= written.length()) {
            throw new IndexOutOfBoundsException();
        }
        return written.charAt(index);
    }

    double meanRides() {
        if (world.passengers.isEmpty()) {
            throw new ArithmeticException();
        }
        double sum = 0;
        for (Passenger passenger : world.passengers) {
            sum += passenger.rides;
        }
        return sum / world.passengers.size();
    }

    float truthShare() {
        if (world.secrets == 0) {
            throw new ArithmeticException();
        }
        float truths = world.secrets;
        for (Passenger passenger : world.passengers) {
            truths -= passenger.carried.size();
        }
        return truths / world.secrets;
    }

    int type(char character) {
        if (character < 32 || character > 126) {
            throw new IllegalArgumentException();
        }
        if (buffer.length() == 60) {
            throw new IllegalStateException();
        }
        buffer += character;
        return buffer.length();
    }

    /** Whether a text is valid or the beginning of a valid one. */
    private static boolean canGoOn(String text) {
        Matcher matcher = TEXT.matcher(text);
        return matcher.matches() || matcher.hitEnd();
    }

    int execute() {
        String text = buffer;
        buffer = "";
        if (!TEXT.matcher(text).matches()) {
            errorPosition = 0;
            while (errorPosition < text.length() && canGoOn(text.substring(0, errorPosition + 1))) {
                errorPosition++;
            }
            throw new IllegalArgumentException();
        }
        World before = world.copy();
        String[] commands = text.split(";");
        for (int index = 0; index < commands.length; index++) {
            String[] words = commands[index].split(" ");
            int[] parameters = new int[words.length - 1];
            for (int i = 0; i < parameters.length; i++) {
                parameters[i] = Integer.parseInt(words[i + 1]);
            }
            try {
                apply(words[0], parameters);
            } catch (RuntimeException e) {
                world = before;
                failedCommand = index;
                throw new IllegalStateException();
            }
        }
        remember(before);
        return commands.length;
    }

    int errorPosition() {
        if (errorPosition < 0) {
            throw new NoSuchElementException();
        }
        return errorPosition;
    }

    int failedCommand() {
        if (failedCommand < 0) {
            throw new NoSuchElementException();
        }
        return failedCommand;
    }

    int undo() {
        if (past.isEmpty()) {
            throw new IllegalStateException();
        }
        world = past.remove(past.size() - 1);
        return past.size();
    }

    int save() {
        snapshot = world.copy();
        return world.passengers.size();
    }

    int restore() {
        if (snapshot == null) {
            throw new IllegalStateException();
        }
        world = snapshot.copy();
        past.clear();
        return world.passengers.size();
    }
}

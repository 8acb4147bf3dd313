import java.util.Arrays;
import java.util.NoSuchElementException;

/**
 * A simulator for a tram network with tickets, transfers and passengers who spread secrets.
 *
 * Every modification has two halves in State: one that tells the fault of the call, without changing anything,
 * and one that makes the change and is used only where there is no fault. So a command text can fail without
 * exceptions inside, and a call that throws has changed nothing.
 *
 * An index is tested where it comes in, by require.. or by faultOf..; so the rows hold only numbers that were tested
 * when they were put in, the totals never pass their limits, and what is read from them can be an index at once.
 */
public final class TramNetwork {
    private static final int MAX_STOPS = 10;
    private static final int MAX_LINES = 5;
    private static final int MIN_LINE_STOPS = 2;
    private static final int MAX_LINE_STOPS = 6;
    private static final int MAX_TRAMS = 6;
    private static final int MAX_PASSENGERS = 8;
    private static final int MAX_SECRETS = 6;
    private static final int ZONES = 4;
    private static final int MAX_SOLD_RIDES = 9;
    private static final int MAX_RIDES = 20;
    private static final int MAX_TEXT = 60;
    private static final int MAX_UNDO = 8;

    // A tram is back at the same position with the same direction after this many ticks at the latest.
    private static final int LONGEST_ROUND = 2 * (MAX_LINE_STOPS - 1);
    // The shortest command has four characters, and a separator stands between two commands.
    private static final int MAX_COMMANDS = (MAX_TEXT + 1) / 5;
    private static final int MAX_DIGITS = 3;

    // Stands for a number that is not there: no stop, no tram, no line, no carrier, no path.
    private static final int NONE = -1;

    // The faults of a call, one for each class of exception.
    private static final int FINE = 0;
    private static final int BAD_INDEX = 1;
    private static final int BAD_ARGUMENT = 2;
    private static final int BAD_STATE = 3;
    private static final int NO_ELEMENT = 4;
    private static final int UNSUPPORTED = 5;

    private static final int STOP = 0;
    private static final int LINE = 1;
    private static final int EXTEND = 2;
    private static final int TRAM = 3;
    private static final int RIDER = 4;
    private static final int TICKET = 5;
    private static final int BOARD = 6;
    private static final int ALIGHT = 7;
    private static final int SECRET = 8;
    private static final int WHISPER = 9;
    private static final int TICK = 10;
    private static final int KINDS = 11;
    private static final int[] DIGITS_OF_KIND = {1, 2, 2, 1, 1, 3, 2, 1, 1, 2, 0};

    private final State now;
    private final State beforeText;
    private final State snapshot;
    private final History history;
    private final PathFinder paths;
    private final CommandText commandText;
    private final StringBuilder written;
    private boolean saved;
    private int errorAt;
    private int failedAt;

    public TramNetwork() {
        now = new State();
        beforeText = new State();
        snapshot = new State();
        history = new History();
        paths = new PathFinder();
        commandText = new CommandText();
        written = new StringBuilder();
        saved = false;
        errorAt = NONE;
        failedAt = NONE;
    }

    // Stops and lines.

    public int addStop(int zone) throws IllegalArgumentException, IllegalStateException {
        refuse(now.faultOfStop(zone));
        history.remember(now);
        return now.grid.putStop(zone);
    }

    public int addLine(int first, int second)
            throws IndexOutOfBoundsException, IllegalArgumentException, IllegalStateException {
        refuse(now.faultOfLine(first, second));
        history.remember(now);
        return now.grid.putLine(first, second);
    }

    public int extendLine(int line, int stop)
            throws IndexOutOfBoundsException, IllegalArgumentException, IllegalStateException {
        refuse(now.faultOfExtension(line, stop));
        history.remember(now);
        return now.grid.appendStop(line, stop);
    }

    public int stopCount() {
        return now.grid.stopTotal;
    }

    public int zoneOf(int stop) throws IndexOutOfBoundsException {
        requireStop(stop);
        return now.grid.zones[stop];
    }

    public boolean isTerminus(int stop) throws IndexOutOfBoundsException {
        requireStop(stop);
        return now.grid.isEnd(stop);
    }

    public int lineCount() {
        return now.grid.lineTotal;
    }

    public int lineLength(int line) throws IndexOutOfBoundsException {
        requireLine(line);
        return now.grid.lengths[line];
    }

    public int stopAt(int line, int position) throws IndexOutOfBoundsException, NoSuchElementException {
        requireLine(line);
        if (position < 0 || position >= now.grid.lengths[line]) {
            throw new NoSuchElementException("no such position");
        }
        return now.grid.stopsOfLine[line][position];
    }

    public int commonStops(int line, int other) throws IndexOutOfBoundsException {
        requireLine(line);
        requireLine(other);
        return Integer.bitCount(now.grid.stopSets[line] & now.grid.stopSets[other]);
    }

    // Trams.

    public int addTram(int line) throws IndexOutOfBoundsException, IllegalStateException {
        refuse(now.faultOfTram(line));
        history.remember(now);
        return now.fleet.putTram(line);
    }

    public int tick() {
        history.remember(now);
        return now.passTick();
    }

    public int tickCount() {
        return now.ticks;
    }

    public int tramCount() {
        return now.fleet.total;
    }

    public int lineOfTram(int tram) throws IndexOutOfBoundsException {
        requireTram(tram);
        return now.fleet.lines[tram];
    }

    public int stopOfTram(int tram) throws IndexOutOfBoundsException {
        requireTram(tram);
        return now.stopUnder(tram);
    }

    public boolean isForward(int tram) throws IndexOutOfBoundsException {
        requireTram(tram);
        return now.fleet.steps[tram] > 0;
    }

    public int crowdOf(int tram) throws IndexOutOfBoundsException {
        requireTram(tram);
        return now.riders.countOn(tram);
    }

    public int fullestTram() throws NoSuchElementException {
        if (now.fleet.total == 0) {
            throw new NoSuchElementException("no trams");
        }
        int fullest = 0;
        for (int tram = 1; tram < now.fleet.total; tram++) {
            if (now.riders.countOn(tram) > now.riders.countOn(fullest)) {
                fullest = tram;
            }
        }
        return fullest;
    }

    public int arrivalOf(int tram, int stop) throws IndexOutOfBoundsException, NoSuchElementException {
        requireTram(tram);
        requireStop(stop);
        return found(now.ticksByFormula(tram, stop));
    }

    public int arrivalBySimulation(int tram, int stop) throws IndexOutOfBoundsException, NoSuchElementException {
        requireTram(tram);
        requireStop(stop);
        return found(now.ticksBySimulation(tram, stop));
    }

    // Passengers and tickets.

    public int addPassenger(int stop) throws IndexOutOfBoundsException, IllegalStateException {
        refuse(now.faultOfPassenger(stop));
        history.remember(now);
        return now.riders.putPassenger(stop);
    }

    public int sellTicket(int passenger, int zone, int rides)
            throws IndexOutOfBoundsException, IllegalArgumentException, IllegalStateException {
        refuse(now.faultOfTicket(passenger, zone, rides));
        history.remember(now);
        return now.riders.addToTicket(passenger, zone, rides);
    }

    public boolean board(int passenger, int tram)
            throws IndexOutOfBoundsException, IllegalStateException, NoSuchElementException,
            UnsupportedOperationException {
        refuse(now.faultOfBoarding(passenger, tram));
        history.remember(now);
        return now.letBoard(passenger, tram);
    }

    public int alight(int passenger) throws IndexOutOfBoundsException, IllegalStateException {
        refuse(now.faultOfAlighting(passenger));
        history.remember(now);
        return now.letAlight(passenger);
    }

    public int passengerCount() {
        return now.riders.total;
    }

    public int stopOfPassenger(int passenger) throws IndexOutOfBoundsException {
        requirePassenger(passenger);
        return now.riders.stops[passenger];
    }

    public int tramOfPassenger(int passenger) throws IndexOutOfBoundsException {
        requirePassenger(passenger);
        return now.riders.trams[passenger];
    }

    public int ridesOf(int passenger) throws IndexOutOfBoundsException {
        requirePassenger(passenger);
        return now.riders.rides[passenger];
    }

    public boolean isValidIn(int passenger, int zone) throws IndexOutOfBoundsException, IllegalArgumentException {
        requirePassenger(passenger);
        if (!isZone(zone)) {
            throw new IllegalArgumentException("no such zone");
        }
        return now.riders.hasZone(passenger, zone);
    }

    public boolean canBoard(int passenger, int tram) throws IndexOutOfBoundsException {
        requirePassenger(passenger);
        requireTram(tram);
        return now.faultOfBoarding(passenger, tram) == FINE;
    }

    public boolean isTransfer(int passenger, int line) throws IndexOutOfBoundsException {
        requirePassenger(passenger);
        requireLine(line);
        return now.wouldTransfer(passenger, line);
    }

    // Secrets.

    public int addSecret(int passenger) throws IndexOutOfBoundsException, IllegalStateException {
        refuse(now.faultOfSecret(passenger));
        history.remember(now);
        return now.gossip.putSecret(passenger);
    }

    public int whisper(int secret, int listener)
            throws IndexOutOfBoundsException, IllegalStateException, UnsupportedOperationException {
        refuse(now.faultOfWhisper(secret, listener));
        history.remember(now);
        return now.spread(secret, listener);
    }

    public int secretCount() {
        return now.gossip.total;
    }

    public int carrierOf(int secret) throws IndexOutOfBoundsException {
        requireSecret(secret);
        return now.gossip.carriers[secret];
    }

    public boolean isTruth(int secret) throws IndexOutOfBoundsException {
        requireSecret(secret);
        return now.gossip.isOut(secret);
    }

    public boolean knows(int passenger, int secret) throws IndexOutOfBoundsException {
        requirePassenger(passenger);
        requireSecret(secret);
        return now.gossip.hasHeard(passenger, secret);
    }

    public int knowerCount(int secret) throws IndexOutOfBoundsException {
        requireSecret(secret);
        return now.gossip.countKnowers(secret);
    }

    public int wisestPassenger(int rank) throws NoSuchElementException {
        for (int passenger = 0; passenger < now.riders.total; passenger++) {
            if (now.countWiser(passenger) == rank) {
                return passenger;
            }
        }
        throw new NoSuchElementException("no such rank");
    }

    // Paths.

    public int distance(int from, int to) throws IndexOutOfBoundsException, NoSuchElementException {
        requireStop(from);
        requireStop(to);
        return found(paths.stepsBySearch(now.grid, from, to));
    }

    public int distanceByRelaxation(int from, int to) throws IndexOutOfBoundsException, NoSuchElementException {
        requireStop(from);
        requireStop(to);
        return found(paths.stepsByRelaxation(now.grid, from, to));
    }

    public int changes(int from, int to) throws IndexOutOfBoundsException, NoSuchElementException {
        requireStop(from);
        requireStop(to);
        return found(paths.linesBySearch(now.grid, from, to));
    }

    public int changesByGrowth(int from, int to) throws IndexOutOfBoundsException, NoSuchElementException {
        requireStop(from);
        requireStop(to);
        return found(paths.linesByGrowth(now.grid, from, to));
    }

    // Lines of text, statistics and checks.

    public int writeLine(int line) throws IndexOutOfBoundsException {
        requireLine(line);
        written.setLength(0);
        for (int position = 0; position < now.grid.lengths[line]; position++) {
            if (position > 0) {
                written.append('-');
            }
            written.append(now.grid.stopsOfLine[line][position]);
        }
        return written.length();
    }

    public int writePassenger(int passenger) throws IndexOutOfBoundsException {
        requirePassenger(passenger);
        written.setLength(0);
        written.append(passenger);
        writePlace(passenger);
        written.append('r');
        written.append(now.riders.rides[passenger]);
        for (int secret = 0; secret < now.gossip.total; secret++) {
            if (now.gossip.carriers[secret] == passenger) {
                written.append('s');
                written.append(secret);
            }
        }
        return written.length();
    }

    private void writePlace(int passenger) {
        int tram = now.riders.trams[passenger];
        if (tram == NONE) {
            written.append('@');
            written.append(now.riders.stops[passenger]);
        } else {
            written.append('>');
            written.append(tram);
        }
    }

    public char textAt(int index) throws IndexOutOfBoundsException {
        if (index < 0 || index >= written.length()) {
            throw new IndexOutOfBoundsException("no such character");
        }
        return written.charAt(index);
    }

    public double meanRides() throws ArithmeticException {
        int passengers = now.riders.total;
        if (passengers == 0) {
            throw new ArithmeticException("no passengers");
        }
        int sum = 0;
        for (int passenger = 0; passenger < passengers; passenger++) {
            sum += now.riders.rides[passenger];
        }
        return (double) sum / (double) passengers;
    }

    public float truthShare() throws ArithmeticException {
        int secrets = now.gossip.total;
        if (secrets == 0) {
            throw new ArithmeticException("no secrets");
        }
        int truths = 0;
        for (int secret = 0; secret < secrets; secret++) {
            if (now.gossip.isOut(secret)) {
                truths++;
            }
        }
        return (float) truths / (float) secrets;
    }

    public boolean isConsistent() {
        return now.gossip.carriersKnow() && paths.methodsAgree(now.grid);
    }

    // Text, undo and snapshots.

    public int type(char character) throws IllegalArgumentException, IllegalStateException {
        if (character < 32 || character > 126) {
            throw new IllegalArgumentException("not a printable character");
        }
        if (commandText.length >= MAX_TEXT) {
            throw new IllegalStateException("the buffer is full");
        }
        return commandText.append(character);
    }

    public int execute() throws IllegalArgumentException, IllegalStateException {
        boolean wellFormed = commandText.parse();
        commandText.empty();
        if (!wellFormed) {
            errorAt = commandText.cursor;
            throw new IllegalArgumentException("malformed text");
        }
        beforeText.copyFrom(now);
        int failed = firstFailing();
        if (failed != NONE) {
            now.copyFrom(beforeText);
            failedAt = failed;
            throw new IllegalStateException("a command failed");
        }
        history.remember(beforeText);
        return commandText.total;
    }

    public int errorPosition() throws NoSuchElementException {
        return found(errorAt);
    }

    public int failedCommand() throws NoSuchElementException {
        return found(failedAt);
    }

    public int undo() throws IllegalStateException {
        if (history.total == 0) {
            throw new IllegalStateException("nothing to undo");
        }
        history.takeBack(now);
        return history.total;
    }

    public int save() {
        snapshot.copyFrom(now);
        saved = true;
        return now.riders.total;
    }

    public int restore() throws IllegalStateException {
        if (!saved) {
            throw new IllegalStateException("no snapshot");
        }
        now.copyFrom(snapshot);
        history.forget();
        return now.riders.total;
    }

    /** Executes the parsed commands up to the first that fails, and returns its index, or NONE if all succeed. */
    private int firstFailing() {
        for (int index = 0; index < commandText.total; index++) {
            if (!now.attempt(commandText.kinds[index], commandText.digits[index])) {
                return index;
            }
        }
        return NONE;
    }

    private static boolean isZone(int zone) {
        return zone >= 0 && zone < ZONES;
    }

    private static void refuse(int fault) {
        switch (fault) {
            case BAD_INDEX:
                throw new IndexOutOfBoundsException("no such number");
            case BAD_ARGUMENT:
                throw new IllegalArgumentException("an argument is out of range");
            case BAD_STATE:
                throw new IllegalStateException("not possible in this state");
            case NO_ELEMENT:
                throw new NoSuchElementException("the tram is not at the stop");
            case UNSUPPORTED:
                throw new UnsupportedOperationException("not allowed");
            default:
                return;
        }
    }

    private static int found(int answer) {
        if (answer == NONE) {
            throw new NoSuchElementException("nothing found");
        }
        return answer;
    }

    private void requireStop(int stop) {
        if (!now.grid.hasStop(stop)) {
            throw new IndexOutOfBoundsException("no such stop");
        }
    }

    private void requireLine(int line) {
        if (!now.grid.hasLine(line)) {
            throw new IndexOutOfBoundsException("no such line");
        }
    }

    private void requireTram(int tram) {
        if (!now.fleet.hasTram(tram)) {
            throw new IndexOutOfBoundsException("no such tram");
        }
    }

    private void requirePassenger(int passenger) {
        if (!now.riders.hasPassenger(passenger)) {
            throw new IndexOutOfBoundsException("no such passenger");
        }
    }

    private void requireSecret(int secret) {
        if (!now.gossip.hasSecret(secret)) {
            throw new IndexOutOfBoundsException("no such secret");
        }
    }

    /** The stops and the lines. */
    private static final class Grid {
        private int stopTotal;
        private int lineTotal;
        private final int[] zones;
        private final int[] lengths;
        private final int[][] stopsOfLine;
        // For each line the bit of each of its stops, so that lines can be compared at once.
        private final int[] stopSets;

        Grid() {
            zones = new int[MAX_STOPS];
            lengths = new int[MAX_LINES];
            stopsOfLine = new int[MAX_LINES][MAX_LINE_STOPS];
            stopSets = new int[MAX_LINES];
        }

        void copyFrom(Grid other) {
            stopTotal = other.stopTotal;
            lineTotal = other.lineTotal;
            System.arraycopy(other.zones, 0, zones, 0, MAX_STOPS);
            System.arraycopy(other.lengths, 0, lengths, 0, MAX_LINES);
            System.arraycopy(other.stopSets, 0, stopSets, 0, MAX_LINES);
            for (int line = 0; line < MAX_LINES; line++) {
                System.arraycopy(other.stopsOfLine[line], 0, stopsOfLine[line], 0, MAX_LINE_STOPS);
            }
        }

        boolean hasStop(int stop) {
            return stop >= 0 && stop < stopTotal;
        }

        boolean hasLine(int line) {
            return line >= 0 && line < lineTotal;
        }

        boolean serves(int line, int stop) {
            return (stopSets[line] & 1 << stop) != 0;
        }

        boolean isEnd(int stop) {
            for (int line = 0; line < lineTotal; line++) {
                if (stopsOfLine[line][0] == stop || stopsOfLine[line][lengths[line] - 1] == stop) {
                    return true;
                }
            }
            return false;
        }

        int positionOn(int line, int stop) {
            for (int position = 0; position < lengths[line]; position++) {
                if (stopsOfLine[line][position] == stop) {
                    return position;
                }
            }
            return NONE;
        }

        int putStop(int zone) {
            zones[stopTotal] = zone;
            stopTotal++;
            return stopTotal - 1;
        }

        int putLine(int first, int second) {
            int line = lineTotal;
            stopsOfLine[line][0] = first;
            stopsOfLine[line][1] = second;
            lengths[line] = MIN_LINE_STOPS;
            stopSets[line] = 1 << first | 1 << second;
            lineTotal++;
            return line;
        }

        int appendStop(int line, int stop) {
            int position = lengths[line];
            stopsOfLine[line][position] = stop;
            stopSets[line] |= 1 << stop;
            lengths[line] = position + 1;
            return position;
        }
    }

    /** The trams. */
    private static final class Fleet {
        private int total;
        private final int[] lines;
        private final int[] positions;
        // 1 for a tram that moves forward, -1 for one that moves backward.
        private final int[] steps;

        Fleet() {
            lines = new int[MAX_TRAMS];
            positions = new int[MAX_TRAMS];
            steps = new int[MAX_TRAMS];
        }

        void copyFrom(Fleet other) {
            total = other.total;
            System.arraycopy(other.lines, 0, lines, 0, MAX_TRAMS);
            System.arraycopy(other.positions, 0, positions, 0, MAX_TRAMS);
            System.arraycopy(other.steps, 0, steps, 0, MAX_TRAMS);
        }

        boolean hasTram(int tram) {
            return tram >= 0 && tram < total;
        }

        int putTram(int line) {
            lines[total] = line;
            positions[total] = 0;
            steps[total] = 1;
            total++;
            return total - 1;
        }

        /** Moves every tram, and returns how many of them arrived at an end of their line. */
        int moveAll(Grid grid) {
            int arrivals = 0;
            for (int tram = 0; tram < total; tram++) {
                int last = grid.lengths[lines[tram]] - 1;
                positions[tram] += steps[tram];
                steps[tram] = turned(positions[tram], steps[tram], last);
                if (positions[tram] == 0 || positions[tram] == last) {
                    arrivals++;
                }
            }
            return arrivals;
        }

        /** The step of a tram that has just arrived at a position. */
        static int turned(int position, int step, int last) {
            if (position >= last) {
                return -1;
            }
            return position <= 0 ? 1 : step;
        }
    }

    /** The passengers and their tickets. */
    private static final class Riders {
        private int total;
        private final int[] stops;
        private final int[] trams;
        private final int[] rides;
        // For each passenger the bit of each zone in which the ticket is valid.
        private final int[] zoneSets;
        // The line of the tram from which the passenger alighted last, and the tick of that alighting.
        private final int[] leftLines;
        private final int[] leftTicks;

        Riders() {
            stops = new int[MAX_PASSENGERS];
            trams = new int[MAX_PASSENGERS];
            rides = new int[MAX_PASSENGERS];
            zoneSets = new int[MAX_PASSENGERS];
            leftLines = new int[MAX_PASSENGERS];
            leftTicks = new int[MAX_PASSENGERS];
        }

        void copyFrom(Riders other) {
            total = other.total;
            System.arraycopy(other.stops, 0, stops, 0, MAX_PASSENGERS);
            System.arraycopy(other.trams, 0, trams, 0, MAX_PASSENGERS);
            System.arraycopy(other.rides, 0, rides, 0, MAX_PASSENGERS);
            System.arraycopy(other.zoneSets, 0, zoneSets, 0, MAX_PASSENGERS);
            System.arraycopy(other.leftLines, 0, leftLines, 0, MAX_PASSENGERS);
            System.arraycopy(other.leftTicks, 0, leftTicks, 0, MAX_PASSENGERS);
        }

        boolean hasPassenger(int passenger) {
            return passenger >= 0 && passenger < total;
        }

        boolean hasZone(int passenger, int zone) {
            return (zoneSets[passenger] & 1 << zone) != 0;
        }

        int countOn(int tram) {
            int count = 0;
            for (int passenger = 0; passenger < total; passenger++) {
                if (trams[passenger] == tram) {
                    count++;
                }
            }
            return count;
        }

        int putPassenger(int stop) {
            int passenger = total;
            stops[passenger] = stop;
            trams[passenger] = NONE;
            rides[passenger] = 0;
            zoneSets[passenger] = 0;
            leftLines[passenger] = NONE;
            leftTicks[passenger] = 0;
            total++;
            return passenger;
        }

        int addToTicket(int passenger, int zone, int sold) {
            zoneSets[passenger] |= 1 << zone;
            rides[passenger] += sold;
            return rides[passenger];
        }
    }

    /** The secrets, and who knows them. */
    private static final class Gossip {
        private int total;
        private final int[] carriers;
        // For each secret the bit of each passenger who knows it.
        private final int[] knowers;

        Gossip() {
            carriers = new int[MAX_SECRETS];
            knowers = new int[MAX_SECRETS];
        }

        void copyFrom(Gossip other) {
            total = other.total;
            System.arraycopy(other.carriers, 0, carriers, 0, MAX_SECRETS);
            System.arraycopy(other.knowers, 0, knowers, 0, MAX_SECRETS);
        }

        boolean hasSecret(int secret) {
            return secret >= 0 && secret < total;
        }

        boolean isOut(int secret) {
            return carriers[secret] == NONE;
        }

        boolean hasHeard(int passenger, int secret) {
            return (knowers[secret] & 1 << passenger) != 0;
        }

        int countKnowers(int secret) {
            return Integer.bitCount(knowers[secret]);
        }

        int countKnownBy(int passenger) {
            int count = 0;
            for (int secret = 0; secret < total; secret++) {
                if (hasHeard(passenger, secret)) {
                    count++;
                }
            }
            return count;
        }

        boolean carriersKnow() {
            for (int secret = 0; secret < total; secret++) {
                if (!isOut(secret) && !hasHeard(carriers[secret], secret)) {
                    return false;
                }
            }
            return true;
        }

        int putSecret(int passenger) {
            carriers[total] = passenger;
            knowers[total] = 1 << passenger;
            total++;
            return total - 1;
        }

        void tell(int passenger, int secret) {
            knowers[secret] |= 1 << passenger;
        }

        void revealAllOf(int passenger) {
            for (int secret = 0; secret < total; secret++) {
                if (carriers[secret] == passenger) {
                    carriers[secret] = NONE;
                }
            }
        }
    }

    /** All that can be undone, saved and restored. */
    private static final class State {
        private final Grid grid;
        private final Fleet fleet;
        private final Riders riders;
        private final Gossip gossip;
        private int ticks;

        State() {
            grid = new Grid();
            fleet = new Fleet();
            riders = new Riders();
            gossip = new Gossip();
        }

        void copyFrom(State other) {
            grid.copyFrom(other.grid);
            fleet.copyFrom(other.fleet);
            riders.copyFrom(other.riders);
            gossip.copyFrom(other.gossip);
            ticks = other.ticks;
        }

        int faultOfStop(int zone) {
            if (!isZone(zone)) {
                return BAD_ARGUMENT;
            }
            return grid.stopTotal >= MAX_STOPS ? BAD_STATE : FINE;
        }

        int faultOfLine(int first, int second) {
            if (!grid.hasStop(first) || !grid.hasStop(second)) {
                return BAD_INDEX;
            }
            if (first == second) {
                return BAD_ARGUMENT;
            }
            return grid.lineTotal >= MAX_LINES ? BAD_STATE : FINE;
        }

        int faultOfExtension(int line, int stop) {
            if (!grid.hasLine(line) || !grid.hasStop(stop)) {
                return BAD_INDEX;
            }
            if (grid.serves(line, stop)) {
                return BAD_ARGUMENT;
            }
            return grid.lengths[line] >= MAX_LINE_STOPS ? BAD_STATE : FINE;
        }

        int faultOfTram(int line) {
            if (!grid.hasLine(line)) {
                return BAD_INDEX;
            }
            return fleet.total >= MAX_TRAMS ? BAD_STATE : FINE;
        }

        int faultOfPassenger(int stop) {
            if (!grid.hasStop(stop)) {
                return BAD_INDEX;
            }
            return riders.total >= MAX_PASSENGERS ? BAD_STATE : FINE;
        }

        int faultOfTicket(int passenger, int zone, int sold) {
            if (!riders.hasPassenger(passenger)) {
                return BAD_INDEX;
            }
            if (!isZone(zone) || sold < 1 || sold > MAX_SOLD_RIDES) {
                return BAD_ARGUMENT;
            }
            return riders.rides[passenger] + sold > MAX_RIDES ? BAD_STATE : FINE;
        }

        int faultOfBoarding(int passenger, int tram) {
            if (!riders.hasPassenger(passenger) || !fleet.hasTram(tram)) {
                return BAD_INDEX;
            }
            if (riders.trams[passenger] != NONE) {
                return BAD_STATE;
            }
            int stop = riders.stops[passenger];
            if (stop != stopUnder(tram)) {
                return NO_ELEMENT;
            }
            if (wouldTransfer(passenger, fleet.lines[tram])) {
                return FINE;
            }
            boolean paid = riders.rides[passenger] > 0 && riders.hasZone(passenger, grid.zones[stop]);
            return paid ? FINE : UNSUPPORTED;
        }

        int faultOfAlighting(int passenger) {
            if (!riders.hasPassenger(passenger)) {
                return BAD_INDEX;
            }
            return riders.trams[passenger] == NONE ? BAD_STATE : FINE;
        }

        int faultOfSecret(int passenger) {
            if (!riders.hasPassenger(passenger)) {
                return BAD_INDEX;
            }
            return gossip.total >= MAX_SECRETS ? BAD_STATE : FINE;
        }

        int faultOfWhisper(int secret, int listener) {
            if (!gossip.hasSecret(secret) || !riders.hasPassenger(listener)) {
                return BAD_INDEX;
            }
            if (gossip.isOut(secret)) {
                return BAD_STATE;
            }
            int carrier = gossip.carriers[secret];
            int tram = riders.trams[carrier];
            boolean together = tram != NONE && riders.trams[listener] == tram;
            return listener != carrier && together ? FINE : UNSUPPORTED;
        }

        int passTick() {
            ticks++;
            return fleet.moveAll(grid);
        }

        boolean letBoard(int passenger, int tram) {
            boolean free = wouldTransfer(passenger, fleet.lines[tram]);
            if (!free) {
                riders.rides[passenger]--;
            }
            riders.stops[passenger] = NONE;
            riders.trams[passenger] = tram;
            return !free;
        }

        int letAlight(int passenger) {
            int tram = riders.trams[passenger];
            int stop = stopUnder(tram);
            riders.trams[passenger] = NONE;
            riders.stops[passenger] = stop;
            riders.leftLines[passenger] = fleet.lines[tram];
            riders.leftTicks[passenger] = ticks;
            if (grid.isEnd(stop)) {
                gossip.revealAllOf(passenger);
            }
            return stop;
        }

        int spread(int secret, int listener) {
            int tram = riders.trams[listener];
            gossip.carriers[secret] = listener;
            for (int passenger = 0; passenger < riders.total; passenger++) {
                if (riders.trams[passenger] == tram) {
                    gossip.tell(passenger, secret);
                }
            }
            return gossip.countKnowers(secret);
        }

        int stopUnder(int tram) {
            return grid.stopsOfLine[fleet.lines[tram]][fleet.positions[tram]];
        }

        boolean wouldTransfer(int passenger, int line) {
            if (riders.trams[passenger] != NONE || riders.leftLines[passenger] == NONE) {
                return false;
            }
            return riders.leftLines[passenger] != line && ticks - riders.leftTicks[passenger] <= 1;
        }

        /** How many passengers stand before a passenger in the order of the wisest. */
        int countWiser(int passenger) {
            int own = gossip.countKnownBy(passenger);
            int wiser = 0;
            for (int other = 0; other < riders.total; other++) {
                int known = gossip.countKnownBy(other);
                if (known > own || known == own && other < passenger) {
                    wiser++;
                }
            }
            return wiser;
        }

        /** The ticks until a tram is at a stop, or NONE if its line does not serve the stop. */
        int ticksByFormula(int tram, int stop) {
            int line = fleet.lines[tram];
            int target = grid.positionOn(line, stop);
            if (target == NONE) {
                return NONE;
            }
            int position = fleet.positions[tram];
            int last = grid.lengths[line] - 1;
            if (fleet.steps[tram] > 0) {
                return target >= position ? target - position : last - position + (last - target);
            }
            return target <= position ? position - target : position + target;
        }

        /** The same as ticksByFormula: a stop of the line is met within one round of the tram. */
        int ticksBySimulation(int tram, int stop) {
            int line = fleet.lines[tram];
            int last = grid.lengths[line] - 1;
            int position = fleet.positions[tram];
            int step = fleet.steps[tram];
            for (int passed = 0; passed <= LONGEST_ROUND; passed++) {
                if (grid.stopsOfLine[line][position] == stop) {
                    return passed;
                }
                position += step;
                step = Fleet.turned(position, step, last);
            }
            return NONE;
        }

        /** Makes the change of a command if it has no fault, and returns whether it had none. */
        boolean attempt(int kind, int[] digits) {
            if (digits.length < MAX_DIGITS) {
                return false;
            }
            boolean fine = faultOfCommand(kind, digits[0], digits[1], digits[2]) == FINE;
            if (fine) {
                applyCommand(kind, digits[0], digits[1], digits[2]);
            }
            return fine;
        }

        private int faultOfCommand(int kind, int first, int second, int third) {
            switch (kind) {
                case STOP:
                    return faultOfStop(first);
                case LINE:
                    return faultOfLine(first, second);
                case EXTEND:
                    return faultOfExtension(first, second);
                case TRAM:
                    return faultOfTram(first);
                case RIDER:
                    return faultOfPassenger(first);
                case TICKET:
                    return faultOfTicket(first, second, third);
                case BOARD:
                    return faultOfBoarding(first, second);
                case ALIGHT:
                    return faultOfAlighting(first);
                case SECRET:
                    return faultOfSecret(first);
                case WHISPER:
                    return faultOfWhisper(first, second);
                default:
                    return FINE;
            }
        }

        private void applyCommand(int kind, int first, int second, int third) {
            switch (kind) {
                case STOP:
                    grid.putStop(first);
                    break;
                case LINE:
                    grid.putLine(first, second);
                    break;
                case EXTEND:
                    grid.appendStop(first, second);
                    break;
                case TRAM:
                    fleet.putTram(first);
                    break;
                case RIDER:
                    riders.putPassenger(first);
                    break;
                case TICKET:
                    riders.addToTicket(first, second, third);
                    break;
                case BOARD:
                    letBoard(first, second);
                    break;
                case ALIGHT:
                    letAlight(first);
                    break;
                case SECRET:
                    gossip.putSecret(first);
                    break;
                case WHISPER:
                    spread(first, second);
                    break;
                default:
                    passTick();
                    break;
            }
        }
    }

    /** The states before the last modifications, in rows that are used again and again. */
    private static final class History {
        private final State[] states;
        private int oldest;
        private int total;

        History() {
            states = new State[MAX_UNDO];
            for (int index = 0; index < MAX_UNDO; index++) {
                states[index] = new State();
            }
        }

        void remember(State state) {
            if (total == MAX_UNDO) {
                oldest = (oldest + 1) % MAX_UNDO;
                total--;
            }
            states[(oldest + total) % MAX_UNDO].copyFrom(state);
            total++;
        }

        void takeBack(State state) {
            if (total > 0) {
                total--;
                state.copyFrom(states[(oldest + total) % MAX_UNDO]);
            }
        }

        void forget() {
            total = 0;
        }
    }

    /** The searches over stops and lines; its rows are scratch paper, which every search fills anew. */
    private static final class PathFinder {
        private final int[] steps;
        private final int[] stopQueue;
        private final int[] depths;
        private final int[] lineQueue;
        private int queued;

        PathFinder() {
            steps = new int[MAX_STOPS];
            stopQueue = new int[MAX_STOPS];
            depths = new int[MAX_LINES];
            lineQueue = new int[MAX_LINES];
        }

        int stepsBySearch(Grid grid, int from, int to) {
            Arrays.fill(steps, NONE);
            queued = 0;
            reachStop(from, 0);
            for (int head = 0; head < queued && head < MAX_STOPS; head++) {
                int stop = stopQueue[head];
                if (stop == to) {
                    return steps[stop];
                }
                reachNeighbours(grid, stop);
            }
            return NONE;
        }

        private void reachNeighbours(Grid grid, int stop) {
            int next = steps[stop] + 1;
            for (int line = 0; line < grid.lineTotal; line++) {
                int position = grid.positionOn(line, stop);
                if (position > 0) {
                    reachStop(grid.stopsOfLine[line][position - 1], next);
                }
                if (position != NONE && position + 1 < grid.lengths[line]) {
                    reachStop(grid.stopsOfLine[line][position + 1], next);
                }
            }
        }

        private void reachStop(int stop, int step) {
            if (steps[stop] == NONE && queued < MAX_STOPS) {
                steps[stop] = step;
                stopQueue[queued] = stop;
                queued++;
            }
        }

        int stepsByRelaxation(Grid grid, int from, int to) {
            Arrays.fill(steps, NONE);
            steps[from] = 0;
            boolean changed = true;
            // A shortest path has fewer than MAX_STOPS steps, and each round but the last settles one more.
            for (int round = 0; changed && round < MAX_STOPS; round++) {
                changed = relaxAll(grid);
            }
            return steps[to];
        }

        private boolean relaxAll(Grid grid) {
            boolean changed = false;
            for (int line = 0; line < grid.lineTotal; line++) {
                for (int position = 1; position < grid.lengths[line]; position++) {
                    int one = grid.stopsOfLine[line][position - 1];
                    int other = grid.stopsOfLine[line][position];
                    boolean onward = relax(one, other);
                    boolean back = relax(other, one);
                    changed = changed || onward || back;
                }
            }
            return changed;
        }

        private boolean relax(int near, int far) {
            if (steps[near] == NONE) {
                return false;
            }
            int through = steps[near] + 1;
            if (steps[far] != NONE && steps[far] <= through) {
                return false;
            }
            steps[far] = through;
            return true;
        }

        int linesBySearch(Grid grid, int from, int to) {
            if (from == to) {
                return 0;
            }
            Arrays.fill(depths, NONE);
            queued = 0;
            reachLines(grid, 1 << from, 0);
            for (int head = 0; head < queued && head < MAX_LINES; head++) {
                int line = lineQueue[head];
                if (grid.serves(line, to)) {
                    return depths[line];
                }
                reachLines(grid, grid.stopSets[line], depths[line] + 1);
            }
            return NONE;
        }

        /** Queues every line not queued before that serves one of some stops. */
        private void reachLines(Grid grid, int stopSet, int depth) {
            for (int line = 0; line < grid.lineTotal; line++) {
                if (depths[line] == NONE && (grid.stopSets[line] & stopSet) != 0 && queued < MAX_LINES) {
                    depths[line] = depth;
                    lineQueue[queued] = line;
                    queued++;
                }
            }
        }

        int linesByGrowth(Grid grid, int from, int to) {
            if (from == to) {
                return 0;
            }
            int reached = 1 << from;
            for (int used = 1; used <= MAX_LINES; used++) {
                reached = grown(grid, reached);
                if ((reached & 1 << to) != 0) {
                    return used - 1;
                }
            }
            return NONE;
        }

        private int grown(Grid grid, int reached) {
            int all = reached;
            for (int line = 0; line < grid.lineTotal; line++) {
                if ((grid.stopSets[line] & reached) != 0) {
                    all |= grid.stopSets[line];
                }
            }
            return all;
        }

        boolean methodsAgree(Grid grid) {
            for (int from = 0; from < grid.stopTotal; from++) {
                for (int to = 0; to < grid.stopTotal; to++) {
                    if (stepsBySearch(grid, from, to) != stepsByRelaxation(grid, from, to)
                            || linesBySearch(grid, from, to) != linesByGrowth(grid, from, to)) {
                        return false;
                    }
                }
            }
            return true;
        }
    }

    /** The buffer for command texts, and the commands of the text that was parsed last. */
    private static final class CommandText {
        private int length;
        private final char[] characters;
        // The next character to be read; where a text is malformed, it stays at the error position.
        private int cursor;
        private int total;
        private final int[] kinds;
        private final int[][] digits;

        CommandText() {
            characters = new char[MAX_TEXT];
            kinds = new int[MAX_COMMANDS];
            digits = new int[MAX_COMMANDS][MAX_DIGITS];
        }

        int append(char character) {
            characters[length] = character;
            length++;
            return length;
        }

        void empty() {
            length = 0;
        }

        /** Reads the text into its commands, and returns whether it is well formed. */
        boolean parse() {
            cursor = 0;
            total = 0;
            while (total < MAX_COMMANDS) {
                if (!takeCommand()) {
                    return false;
                }
                total++;
                if (cursor == length) {
                    return true;
                }
                if (!take(';')) {
                    return false;
                }
            }
            // So many commands, each with its separator, fill the buffer, so that the text ends too early.
            return false;
        }

        private boolean takeCommand() {
            int kind = takeWord();
            if (kind == NONE) {
                return false;
            }
            kinds[total] = kind;
            for (int index = 0; index < DIGITS_OF_KIND[kind]; index++) {
                if (!take(' ') || !takeDigit(index)) {
                    return false;
                }
            }
            return true;
        }

        private boolean take(char character) {
            if (cursor >= length || characters[cursor] != character) {
                return false;
            }
            cursor++;
            return true;
        }

        private boolean takeDigit(int index) {
            if (cursor >= length || characters[cursor] < '0' || characters[cursor] > '9') {
                return false;
            }
            digits[total][index] = characters[cursor] - '0';
            cursor++;
            return true;
        }

        /**
         * Takes as many characters as any word has in common with the text, and returns the kind of the word that
         * ends there, or NONE. The longest match is the right one: an "e" after "tick" can only belong to "ticket".
         */
        private int takeWord() {
            int longest = 0;
            int kind = NONE;
            for (int candidate = 0; candidate < KINDS; candidate++) {
                String word = wordOf(candidate);
                int matched = matchedLength(word);
                if (matched > longest) {
                    longest = matched;
                    kind = NONE;
                }
                if (matched == longest && matched == word.length()) {
                    kind = candidate;
                }
            }
            cursor += longest;
            return kind;
        }

        private int matchedLength(String word) {
            int limit = Math.min(word.length(), length - cursor);
            for (int index = 0; index < limit; index++) {
                if (characters[cursor + index] != word.charAt(index)) {
                    return index;
                }
            }
            return limit;
        }

        private static String wordOf(int kind) {
            switch (kind) {
                case STOP:
                    return "stop";
                case LINE:
                    return "line";
                case EXTEND:
                    return "extend";
                case TRAM:
                    return "tram";
                case RIDER:
                    return "rider";
                case TICKET:
                    return "ticket";
                case BOARD:
                    return "board";
                case ALIGHT:
                    return "alight";
                case SECRET:
                    return "secret";
                case WHISPER:
                    return "whisper";
                default:
                    return "tick";
            }
        }
    }
}

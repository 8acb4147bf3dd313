import java.util.function.Supplier;

/** Long runs of calls on the program and on the model; after every call each query must answer the same. */
public final class ModelTest {
    private static final int RUNS = 48;
    private static final int CALLS = 512;
    private static final String[] WORDS = {"stop", "line", "extend", "tram", "rider", "ticket", "board", "alight",
        "secret", "whisper", "tick"};
    private static final int[] DIGITS = {1, 2, 2, 1, 1, 3, 2, 1, 1, 2, 0};

    // The words by their numbers; what seldom succeeds stands here more often, or no secret would ever be whispered.
    private static final int[] OFTEN = {0, 1, 2, 3, 4, 5, 5, 6, 6, 6, 6, 6, 6, 6, 6, 7, 8, 9, 9, 9, 9, 9, 9, 10, 10};

    private final Check check;
    private final TramNetwork network = new TramNetwork();
    private final Model model = new Model();
    private final StringBuilder story = new StringBuilder();
    private long seed;

    private ModelTest(Check check, long seed) {
        this.check = check;
        this.seed = seed * 7919 + 17;
    }

    public static void main(String[] args) {
        Check check = new Check();
        for (int run = 0; run < RUNS && check.wrongAnswers() == 0; run++) {
            new ModelTest(check, run).run(run);
        }
        check.finish();
    }

    private int below(int bound) {
        seed = seed * 6364136223846793005L + 1442695040888963407L;
        return (int) ((seed >>> 33) % bound);
    }

    private static String outcome(Supplier<?> call) {
        try {
            return String.valueOf(call.get());
        } catch (RuntimeException e) {
            return e.getClass().getSimpleName();
        }
    }

    private void same(String call, Supplier<?> due, Supplier<?> got) {
        String wanted = outcome(due);
        String answered = outcome(got);
        if (!wanted.equals(answered)) {
            check.complain(call + " answered " + answered + ", due is " + wanted + ", after" + story);
        }
    }

    private void did(String call, Supplier<?> due, Supplier<?> got) {
        same(call, due, got);
        story.append("\n  ").append(call);
    }

    private void run(int run) {
        if (run % 2 == 0) {
            furnish();
        }
        for (int call = 0; call < CALLS && check.wrongAnswers() == 0; call++) {
            step(run);
            if (call % 4 == 3) {
                compare();
            }
        }
        compare();
    }

    /** A small town with much traffic, so that passengers meet. */
    private void furnish() {
        for (int stop = 0; stop < 4; stop++) {
            modify(0, below(2), 0, 0);
        }
        for (int line = 0; line < 3; line++) {
            modify(1, line, line + 1, 0);
            modify(3, line, 0, 0);
        }
        for (int passenger = 0; passenger < 6; passenger++) {
            modify(4, below(2), 0, 0);
            modify(5, passenger, 0, 9);
            modify(5, passenger, 1, 9);
        }
    }

    /** Now and then a number that is out of range. */
    private int number(int count) {
        int choice = below(25);
        if (choice == 0) {
            return -1;
        }
        return choice == 1 || count == 0 ? count : below(count);
    }

    private void step(int run) {
        int choice = below(100);
        if (choice < 4) {
            did("undo", model::undo, network::undo);
        } else if (choice < 6) {
            did("save", model::save, network::save);
        } else if (choice < 7) {
            did("restore", model::restore, network::restore);
        } else if (choice < 8 + 8 * (run % 3)) {
            text();
        } else {
            modify(OFTEN[below(OFTEN.length)]);
        }
    }

    private int parameter(int word, int index) {
        switch (word) {
            case 0:
                return number(4);
            case 1:
            case 4:
                return number(model.world.stops.size());
            case 2:
                return index == 0 ? number(model.world.lines.size()) : number(model.world.stops.size());
            case 3:
                return number(model.world.lines.size());
            case 5:
                return index == 0 ? number(model.world.passengers.size()) : index == 1 ? number(4) : number(10);
            case 6:
                return index == 0 ? number(model.world.passengers.size()) : number(model.world.trams.size());
            case 9:
                return index == 0 ? number(model.world.secrets) : number(model.world.passengers.size());
            default:
                return number(model.world.passengers.size());
        }
    }

    private int[] parameters(int word) {
        return new int[] {parameter(word, 0), parameter(word, 1), parameter(word, 2)};
    }

    /** Most numbers alone would be refused, so that many are tried where the call should succeed. */
    private int[] likelyParameters(int word) {
        int[] drawn = parameters(word);
        for (int tries = 0; tries < 20 && !model.wouldSucceed(WORDS[word], drawn); tries++) {
            drawn = parameters(word);
        }
        return drawn;
    }

    private void modify(int word) {
        int[] drawn = below(4) == 0 ? parameters(word) : likelyParameters(word);
        modify(word, drawn[0], drawn[1], drawn[2]);
    }

    private void modify(int word, int a, int b, int c) {
        did(WORDS[word] + " " + a + " " + b + " " + c, () -> model.modify(WORDS[word], a, b, c),
            () -> call(word, a, b, c));
    }

    private int call(int word, int a, int b, int c) {
        switch (word) {
            case 0:
                return network.addStop(a);
            case 1:
                return network.addLine(a, b);
            case 2:
                return network.extendLine(a, b);
            case 3:
                return network.addTram(a);
            case 4:
                return network.addPassenger(a);
            case 5:
                return network.sellTicket(a, b, c);
            case 6:
                return network.board(a, b) ? 1 : 0;
            case 7:
                return network.alight(a);
            case 8:
                return network.addSecret(a);
            case 9:
                return network.whisper(a, b);
            default:
                return network.tick();
        }
    }

    private void text() {
        StringBuilder text = new StringBuilder();
        int commands = 1 + below(7);
        for (int index = 0; index < commands; index++) {
            int word = below(3) == 0 ? 10 : below(11);
            text.append(index > 0 ? ";" : "").append(WORDS[word]);
            for (int digit = 0; digit < DIGITS[word]; digit++) {
                text.append(' ').append(Math.min(9, Math.max(0, parameter(word, digit))));
            }
        }
        if (below(3) == 0) {
            spoil(text);
        }
        for (int index = 0; index < text.length(); index++) {
            char character = text.charAt(index);
            did("type '" + character + "'", () -> model.type(character), () -> network.type(character));
        }
        did("execute", model::execute, network::execute);
    }

    private void spoil(StringBuilder text) {
        int at = below(text.length());
        String letters = "stoplinexdramckbghwy; 0123456789~\n";
        char letter = letters.charAt(below(letters.length()));
        switch (below(4)) {
            case 0:
                text.setLength(at);
                break;
            case 1:
                text.deleteCharAt(at);
                break;
            case 2:
                text.insert(at, letter);
                break;
            default:
                text.setCharAt(at, letter);
                break;
        }
    }

    private void compare() {
        same("stopCount", () -> model.world.stops.size(), network::stopCount);
        same("lineCount", () -> model.world.lines.size(), network::lineCount);
        same("tickCount", () -> model.world.ticks, network::tickCount);
        same("tramCount", () -> model.world.trams.size(), network::tramCount);
        same("passengerCount", () -> model.world.passengers.size(), network::passengerCount);
        same("secretCount", () -> model.world.secrets, network::secretCount);
        same("fullestTram", model::fullestTram, network::fullestTram);
        same("meanRides", model::meanRides, network::meanRides);
        same("truthShare", model::truthShare, network::truthShare);
        same("isConsistent", () -> true, network::isConsistent);
        same("errorPosition", model::errorPosition, network::errorPosition);
        same("failedCommand", model::failedCommand, network::failedCommand);
        for (int a = -1; a <= 10; a++) {
            compareOne(a);
            for (int b = -1; b <= 10; b++) {
                compareTwo(a, b);
            }
        }
        compareTexts();
    }

    private void compareOne(int a) {
        same("zoneOf " + a, () -> model.zoneOf(a), () -> network.zoneOf(a));
        same("isTerminus " + a, () -> model.isTerminus(a), () -> network.isTerminus(a));
        same("lineLength " + a, () -> model.lineLength(a), () -> network.lineLength(a));
        same("lineOfTram " + a, () -> model.lineOfTram(a), () -> network.lineOfTram(a));
        same("stopOfTram " + a, () -> model.stopOfTram(a), () -> network.stopOfTram(a));
        same("isForward " + a, () -> model.isForward(a), () -> network.isForward(a));
        same("crowdOf " + a, () -> model.crowdOf(a), () -> network.crowdOf(a));
        same("stopOfPassenger " + a, () -> model.stopOfPassenger(a), () -> network.stopOfPassenger(a));
        same("tramOfPassenger " + a, () -> model.tramOfPassenger(a), () -> network.tramOfPassenger(a));
        same("ridesOf " + a, () -> model.ridesOf(a), () -> network.ridesOf(a));
        same("carrierOf " + a, () -> model.carrierOf(a), () -> network.carrierOf(a));
        same("isTruth " + a, () -> model.carrierOf(a) < 0, () -> network.isTruth(a));
        same("knowerCount " + a, () -> model.knowerCount(a), () -> network.knowerCount(a));
        same("wisestPassenger " + a, () -> model.wisestPassenger(a), () -> network.wisestPassenger(a));
    }

    private void compareTwo(int a, int b) {
        String pair = " " + a + " " + b;
        same("stopAt" + pair, () -> model.stopAt(a, b), () -> network.stopAt(a, b));
        same("commonStops" + pair, () -> model.commonStops(a, b), () -> network.commonStops(a, b));
        same("arrivalOf" + pair, () -> model.arrival(a, b), () -> network.arrivalOf(a, b));
        same("arrivalBySimulation" + pair, () -> model.arrival(a, b), () -> network.arrivalBySimulation(a, b));
        same("isValidIn" + pair, () -> model.isValidIn(a, b), () -> network.isValidIn(a, b));
        same("canBoard" + pair, () -> model.canBoard(a, b), () -> network.canBoard(a, b));
        same("isTransfer" + pair, () -> model.isTransfer(a, b), () -> network.isTransfer(a, b));
        same("knows" + pair, () -> model.knows(a, b), () -> network.knows(a, b));
        if (below(6) == 0) {
            same("distance" + pair, () -> model.distance(a, b), () -> network.distance(a, b));
            same("distanceByRelaxation" + pair, () -> model.distance(a, b), () -> network.distanceByRelaxation(a, b));
            same("changes" + pair, () -> model.changes(a, b), () -> network.changes(a, b));
            same("changesByGrowth" + pair, () -> model.changes(a, b), () -> network.changesByGrowth(a, b));
        }
    }

    private void compareTexts() {
        compareText();
        int line = number(model.world.lines.size());
        did("writeLine " + line, () -> model.writeLine(line), () -> network.writeLine(line));
        compareText();
        int passenger = number(model.world.passengers.size());
        did("writePassenger " + passenger, () -> model.writePassenger(passenger),
            () -> network.writePassenger(passenger));
        compareText();
    }

    private void compareText() {
        for (int index = -1; index <= 19; index++) {
            int at = index;
            same("textAt " + at, () -> model.textAt(at), () -> network.textAt(at));
        }
    }
}

import java.util.ArrayList;
import java.util.List;
import java.util.function.Supplier;

/**
 * Runs of calls, modifications and questions, on the program and on the model, which must answer the same. A run
 * ends with the 512th call: what later calls answer is free.
 */
public final class ModelTest {
    private static final int RUNS = 1500;
    private static final int CALLS = 512;
    private static final String[] WORDS = {"stop", "line", "extend", "tram", "rider", "ticket", "board", "alight",
        "secret", "whisper", "tick"};
    private static final int[] DIGITS = {1, 2, 2, 1, 1, 3, 2, 1, 1, 2, 0};

    // The words by their numbers; what seldom succeeds stands here more often, or no secret would ever be whispered.
    private static final int[] OFTEN = {0, 1, 2, 3, 4, 5, 5, 6, 6, 6, 6, 6, 6, 6, 6, 7, 8, 9, 9, 9, 9, 9, 9, 10, 10};

    private final Check check;
    private final TramNetwork network = new TramNetwork();
    private final Model model = new Model();
    private final List<Question> questions = new ArrayList<>();
    private final StringBuilder story = new StringBuilder();
    private int calls;
    private long seed;

    private interface OfOne {
        Object to(int number);
    }

    private interface OfTwo {
        Object to(int one, int other);
    }

    /** The same question to the model and to the program; it may not need both of the numbers. */
    private record Question(String name, OfTwo due, OfTwo got) {
    }

    private ModelTest(Check check, long seed) {
        this.check = check;
        this.seed = seed * 7919 + 17;
        collectCounts();
        collectQuestionsOfOne();
        collectQuestionsOfTwo();
    }

    public static void main(String[] args) {
        Check check = new Check();
        for (int run = 0; run < RUNS && check.wrongAnswers() == 0; run++) {
            new ModelTest(check, run).run(run);
        }
        check.finish();
    }

    private int below(int bound) {
        seed = seed * 6364136223846793005L + 1442695040888963407L;
        return (int) ((seed >>> 33) % bound);
    }

    private static String outcome(Supplier<?> call) {
        try {
            return String.valueOf(call.get());
        } catch (RuntimeException e) {
            return e.getClass().getSimpleName();
        }
    }

    private void same(String call, Supplier<?> due, Supplier<?> got) {
        if (calls >= CALLS) {
            return;
        }
        calls++;
        String wanted = outcome(due);
        String answered = outcome(got);
        if (!wanted.equals(answered)) {
            check.complain(call + " answered " + answered + ", due is " + wanted + ", after" + story);
        }
    }

    private void did(String call, Supplier<?> due, Supplier<?> got) {
        same(call, due, got);
        story.append("\n  ").append(call);
    }

    private void run(int run) {
        if (run % 2 == 0) {
            furnish();
        }
        while (calls < CALLS && check.wrongAnswers() == 0) {
            step(run);
            for (int asked = below(6); asked > 0; asked--) {
                ask();
            }
        }
    }

    /** A small town with much traffic, so that passengers meet. */
    private void furnish() {
        for (int stop = 0; stop < 4; stop++) {
            modify(0, below(2), 0, 0);
        }
        for (int line = 0; line < 3; line++) {
            modify(1, line, line + 1, 0);
            modify(3, line, 0, 0);
        }
        for (int passenger = 0; passenger < 6; passenger++) {
            modify(4, below(2), 0, 0);
            modify(5, passenger, 0, 9);
            modify(5, passenger, 1, 9);
        }
    }

    /** Now and then a number that is out of range. */
    private int number(int count) {
        int choice = below(25);
        if (choice == 0) {
            return -1;
        }
        return choice == 1 || count == 0 ? count : below(count);
    }

    private void step(int run) {
        int choice = below(100);
        if (choice < 4) {
            did("undo", model::undo, network::undo);
        } else if (choice < 6) {
            did("save", model::save, network::save);
        } else if (choice < 7) {
            did("restore", model::restore, network::restore);
        } else if (choice < 8 + 8 * (run % 3)) {
            text();
        } else {
            modify(OFTEN[below(OFTEN.length)]);
        }
    }

    private int parameter(int word, int index) {
        switch (word) {
            case 0:
                return number(4);
            case 1:
            case 4:
                return number(model.world.stops.size());
            case 2:
                return index == 0 ? number(model.world.lines.size()) : number(model.world.stops.size());
            case 3:
                return number(model.world.lines.size());
            case 5:
                return index == 0 ? number(model.world.passengers.size()) : index == 1 ? number(4) : number(10);
            case 6:
                return index == 0 ? number(model.world.passengers.size()) : number(model.world.trams.size());
            case 9:
                return index == 0 ? number(model.world.secrets) : number(model.world.passengers.size());
            default:
                return number(model.world.passengers.size());
        }
    }

    private int[] parameters(int word) {
        return new int[] {parameter(word, 0), parameter(word, 1), parameter(word, 2)};
    }

    /** Most numbers alone would be refused, so that many are tried where the call should succeed. */
    private int[] likelyParameters(int word) {
        int[] drawn = parameters(word);
        for (int tries = 0; tries < 20 && !model.wouldSucceed(WORDS[word], drawn); tries++) {
            drawn = parameters(word);
        }
        return drawn;
    }

    private void modify(int word) {
        int[] drawn = below(4) == 0 ? parameters(word) : likelyParameters(word);
        modify(word, drawn[0], drawn[1], drawn[2]);
    }

    private void modify(int word, int a, int b, int c) {
        did(WORDS[word] + " " + a + " " + b + " " + c, () -> model.modify(WORDS[word], a, b, c),
            () -> call(word, a, b, c));
    }

    private int call(int word, int a, int b, int c) {
        switch (word) {
            case 0:
                return network.addStop(a);
            case 1:
                return network.addLine(a, b);
            case 2:
                return network.extendLine(a, b);
            case 3:
                return network.addTram(a);
            case 4:
                return network.addPassenger(a);
            case 5:
                return network.sellTicket(a, b, c);
            case 6:
                return network.board(a, b) ? 1 : 0;
            case 7:
                return network.alight(a);
            case 8:
                return network.addSecret(a);
            case 9:
                return network.whisper(a, b);
            default:
                return network.tick();
        }
    }

    private void text() {
        StringBuilder text = new StringBuilder();
        int commands = 1 + below(7);
        for (int index = 0; index < commands; index++) {
            int word = below(3) == 0 ? 10 : below(11);
            text.append(index > 0 ? ";" : "").append(WORDS[word]);
            for (int digit = 0; digit < DIGITS[word]; digit++) {
                text.append(' ').append(Math.min(9, Math.max(0, parameter(word, digit))));
            }
        }
        if (below(3) == 0) {
            spoil(text);
        }
        for (int index = 0; index < text.length(); index++) {
            char character = text.charAt(index);
            did("type '" + character + "'", () -> model.type(character), () -> network.type(character));
        }
        did("execute", model::execute, network::execute);
    }

    private void spoil(StringBuilder text) {
        int at = below(text.length());
        String letters = "stoplinexdramckbghwy; 0123456789~\n";
        char letter = letters.charAt(below(letters.length()));
        switch (below(4)) {
            case 0:
                text.setLength(at);
                break;
            case 1:
                text.deleteCharAt(at);
                break;
            case 2:
                text.insert(at, letter);
                break;
            default:
                text.setCharAt(at, letter);
                break;
        }
    }

    private void ask() {
        Question question = questions.get(below(questions.size()));
        int one = below(6) == 0 ? below(22) - 1 : below(8);
        int other = below(6) == 0 ? below(12) - 1 : below(6);
        did(question.name + " " + one + " " + other, () -> question.due.to(one, other),
            () -> question.got.to(one, other));
    }

    private void collect(String name, Supplier<?> due, Supplier<?> got) {
        questions.add(new Question(name, (one, other) -> due.get(), (one, other) -> got.get()));
    }

    private void collectOne(String name, OfOne due, OfOne got) {
        questions.add(new Question(name, (one, other) -> due.to(one), (one, other) -> got.to(one)));
    }

    private void collectTwo(String name, OfTwo due, OfTwo got) {
        questions.add(new Question(name, due, got));
    }

    private void collectCounts() {
        collect("stopCount", () -> model.world.stops.size(), network::stopCount);
        collect("lineCount", () -> model.world.lines.size(), network::lineCount);
        collect("tickCount", () -> model.world.ticks, network::tickCount);
        collect("tramCount", () -> model.world.trams.size(), network::tramCount);
        collect("passengerCount", () -> model.world.passengers.size(), network::passengerCount);
        collect("secretCount", () -> model.world.secrets, network::secretCount);
        collect("fullestTram", model::fullestTram, network::fullestTram);
        collect("meanRides", model::meanRides, network::meanRides);
        collect("truthShare", model::truthShare, network::truthShare);
        collect("isConsistent", () -> true, network::isConsistent);
        collect("errorPosition", model::errorPosition, network::errorPosition);
        collect("failedCommand", model::failedCommand, network::failedCommand);
    }

    private void collectQuestionsOfOne() {
        collectOne("zoneOf", model::zoneOf, network::zoneOf);
        collectOne("isTerminus", model::isTerminus, network::isTerminus);
        collectOne("lineLength", model::lineLength, network::lineLength);
        collectOne("lineOfTram", model::lineOfTram, network::lineOfTram);
        collectOne("stopOfTram", model::stopOfTram, network::stopOfTram);
        collectOne("isForward", model::isForward, network::isForward);
        collectOne("crowdOf", model::crowdOf, network::crowdOf);
        collectOne("stopOfPassenger", model::stopOfPassenger, network::stopOfPassenger);
        collectOne("tramOfPassenger", model::tramOfPassenger, network::tramOfPassenger);
        collectOne("ridesOf", model::ridesOf, network::ridesOf);
        collectOne("carrierOf", model::carrierOf, network::carrierOf);
        collectOne("isTruth", secret -> model.carrierOf(secret) < 0, network::isTruth);
        collectOne("knowerCount", model::knowerCount, network::knowerCount);
        collectOne("wisestPassenger", model::wisestPassenger, network::wisestPassenger);
        collectOne("writeLine", model::writeLine, network::writeLine);
        collectOne("writePassenger", model::writePassenger, network::writePassenger);
        for (int often = 0; often < 5; often++) {
            collectOne("textAt", model::textAt, network::textAt);
        }
    }

    private void collectQuestionsOfTwo() {
        collectTwo("stopAt", model::stopAt, network::stopAt);
        collectTwo("commonStops", model::commonStops, network::commonStops);
        collectTwo("arrivalOf", model::arrival, network::arrivalOf);
        collectTwo("arrivalBySimulation", model::arrival, network::arrivalBySimulation);
        collectTwo("isValidIn", model::isValidIn, network::isValidIn);
        for (int often = 0; often < 5; often++) {
            collectTwo("canBoard", model::canBoard, network::canBoard);
            collectTwo("isTransfer", model::isTransfer, network::isTransfer);
            collectTwo("knows", model::knows, network::knows);
        }
        collectTwo("distance", model::distance, network::distance);
        collectTwo("distanceByRelaxation", model::distance, network::distanceByRelaxation);
        collectTwo("changes", model::changes, network::changes);
        collectTwo("changesByGrowth", model::changes, network::changesByGrowth);
    }
}

import java.util.ArrayList;
import java.util.List;

/**
 * All that calls can answer about the network of a scene. An object is used for at most 512 calls, so that a new
 * one is made when the one before has been asked often enough; and questions that change something have an object
 * of their own.
 */
final class Portrait {
    private static final int ENOUGH = 150;
    // No line of text is longer than 18 characters.
    private static final int LONGEST_TEXT = 18;
    private static final int[] ZONES = {0, 1, 2, 3};

    private final List<String> answers = new ArrayList<>();
    private Scene scene;
    private TramNetwork network;
    private int asked;

    private Portrait(Scene scene) {
        look(scene);
    }

    /** The state and all that is no part of it: the buffer, the error position, the failed command. */
    static List<String> of(Scene scene) {
        Portrait portrait = new Portrait(scene);
        portrait.tellState();
        portrait.tellFarther();
        portrait.tellPast();
        portrait.tellLineOfText();
        portrait.tellBuffer();
        return portrait.answers;
    }

    /** What a refused execute must leave as it was. */
    static List<String> withoutBuffer(Scene scene) {
        Portrait portrait = new Portrait(scene);
        portrait.tellState();
        portrait.tellPast();
        portrait.tellLineOfText();
        return portrait.answers;
    }

    /** What an undo, a save and a restore deal with. */
    static List<String> ofState(Scene scene) {
        Portrait portrait = new Portrait(scene);
        portrait.tellState();
        portrait.tellFarther();
        return portrait.answers;
    }

    static String difference(List<String> due, List<String> got) {
        for (int index = 0; index < due.size() && index < got.size(); index++) {
            if (!due.get(index).equals(got.get(index))) {
                return got.get(index) + ", due is " + due.get(index);
            }
        }
        return due.size() == got.size() ? "" : got.size() + " answers, due are " + due.size();
    }

    private void look(Scene at) {
        scene = at;
        network = at.make();
        asked = 0;
    }

    private void ask(String call, Bounds.Question question) {
        if (asked >= ENOUGH) {
            look(scene);
        }
        asked++;
        answers.add(call + " = " + Bounds.outcome(network, question));
    }

    private void ask(String name, int number, Bounds.Numbered question) {
        ask(name + "(" + number + ")", one -> question.to(one, number));
    }

    private void tellState() {
        tellCounts();
        for (int stop = 0; stop < network.stopCount(); stop++) {
            ask("zoneOf", stop, TramNetwork::zoneOf);
            ask("isTerminus", stop, TramNetwork::isTerminus);
        }
        for (int line = 0; line < network.lineCount(); line++) {
            tellLine(line);
        }
        for (int tram = 0; tram < network.tramCount(); tram++) {
            ask("lineOfTram", tram, TramNetwork::lineOfTram);
            ask("stopOfTram", tram, TramNetwork::stopOfTram);
            ask("isForward", tram, TramNetwork::isForward);
            ask("crowdOf", tram, TramNetwork::crowdOf);
        }
        for (int passenger = 0; passenger < network.passengerCount(); passenger++) {
            tellPassenger(passenger);
        }
        for (int secret = 0; secret < network.secretCount(); secret++) {
            ask("carrierOf", secret, TramNetwork::carrierOf);
            ask("isTruth", secret, TramNetwork::isTruth);
            ask("knowerCount", secret, TramNetwork::knowerCount);
        }
    }

    private void tellCounts() {
        ask("stopCount()", TramNetwork::stopCount);
        ask("lineCount()", TramNetwork::lineCount);
        ask("tickCount()", TramNetwork::tickCount);
        ask("tramCount()", TramNetwork::tramCount);
        ask("passengerCount()", TramNetwork::passengerCount);
        ask("secretCount()", TramNetwork::secretCount);
        ask("fullestTram()", TramNetwork::fullestTram);
        ask("meanRides()", TramNetwork::meanRides);
        ask("truthShare()", TramNetwork::truthShare);
        ask("isConsistent()", TramNetwork::isConsistent);
    }

    private void tellLine(int line) {
        ask("lineLength", line, TramNetwork::lineLength);
        for (int position = 0; position < 6; position++) {
            int at = position;
            ask("stopAt(" + line + ", " + at + ")", one -> one.stopAt(line, at));
        }
        for (int other = 0; other < 5; other++) {
            int with = other;
            ask("commonStops(" + line + ", " + with + ")", one -> one.commonStops(line, with));
        }
    }

    private void tellPassenger(int passenger) {
        ask("stopOfPassenger", passenger, TramNetwork::stopOfPassenger);
        ask("tramOfPassenger", passenger, TramNetwork::tramOfPassenger);
        ask("ridesOf", passenger, TramNetwork::ridesOf);
        ask("wisestPassenger", passenger, TramNetwork::wisestPassenger);
        for (int zone : ZONES) {
            ask("isValidIn(" + passenger + ", " + zone + ")", one -> one.isValidIn(passenger, zone));
        }
        for (int number = 0; number < 6; number++) {
            int at = number;
            ask("isTransfer(" + passenger + ", " + at + ")", one -> one.isTransfer(passenger, at));
            ask("canBoard(" + passenger + ", " + at + ")", one -> one.canBoard(passenger, at));
            ask("knows(" + passenger + ", " + at + ")", one -> one.knows(passenger, at));
        }
    }

    /** What follows from the lines and the trams, or is asked for seldom. */
    private void tellFarther() {
        for (int from = 0; from < network.stopCount(); from++) {
            for (int to = 0; to < network.stopCount(); to++) {
                tellPair(from, to);
            }
        }
        for (int tram = 0; tram < network.tramCount(); tram++) {
            for (int stop = 0; stop < network.stopCount(); stop++) {
                int one = tram;
                int other = stop;
                ask("arrivalOf(" + one + ", " + other + ")", at -> at.arrivalOf(one, other));
                ask("arrivalBySimulation(" + one + ", " + other + ")", at -> at.arrivalBySimulation(one, other));
            }
        }
        for (int number = 0; number < 8; number++) {
            int at = number;
            askForText("writeLine(" + at + ")", one -> one.writeLine(at) + " " + written(one));
            askForText("writePassenger(" + at + ")", one -> one.writePassenger(at) + " " + written(one));
        }
        look(scene);
    }

    private void tellPair(int from, int to) {
        String pair = "(" + from + ", " + to + ")";
        ask("distance" + pair, one -> one.distance(from, to));
        ask("distanceByRelaxation" + pair, one -> one.distanceByRelaxation(from, to));
        ask("changes" + pair, one -> one.changes(from, to));
        ask("changesByGrowth" + pair, one -> one.changesByGrowth(from, to));
    }

    private void askForText(String call, Bounds.Question question) {
        ask(call, question);
        asked += LONGEST_TEXT + 1;
    }

    static String written(TramNetwork network) {
        StringBuilder text = new StringBuilder();
        for (int index = 0; index <= LONGEST_TEXT; index++) {
            try {
                text.append(network.textAt(index));
            } catch (IndexOutOfBoundsException e) {
                break;
            }
        }
        return text.toString();
    }

    /** The states that can be undone and the snapshot. */
    private void tellPast() {
        Scene now = scene;
        boolean more = true;
        for (int undone = 0; undone < 9 && more; undone++) {
            int before = answers.size();
            ask("undo()", TramNetwork::undo);
            more = !answers.get(before).endsWith("Exception");
            if (more) {
                look(scene.then("undone", TramNetwork::undo));
                tellState();
                look(scene);
            }
        }
        look(now);
        String restored = Bounds.outcome(now.make(), TramNetwork::restore);
        answers.add("restore() = " + restored);
        if (!restored.endsWith("Exception")) {
            look(now.then("restored", TramNetwork::restore));
            tellState();
            look(scene);
            ask("undo() after restore()", TramNetwork::undo);
        }
        look(now);
    }

    private void tellLineOfText() {
        look(scene);
        askForText("the line of text", Portrait::written);
    }

    /** The text in the buffer is known by what it does. */
    private void tellBuffer() {
        look(scene);
        ask("errorPosition()", TramNetwork::errorPosition);
        ask("failedCommand()", TramNetwork::failedCommand);
        ask("type('~')", one -> one.type('~'));
        look(scene);
        ask("execute()", TramNetwork::execute);
        ask("errorPosition() after execute()", TramNetwork::errorPosition);
        ask("failedCommand() after execute()", TramNetwork::failedCommand);
        ask("tickCount() after execute()", TramNetwork::tickCount);
        ask("stopCount() after execute()", TramNetwork::stopCount);
    }
}

/** Promises 12 to 22, and what "Terms" says of trams. */
final class BoundsOfTrams extends Bounds {
    private static final String TURNS = "A tram that arrives at the last position of its line turns backward, and a"
        + " tram that arrives at position 0 turns forward.";

    BoundsOfTrams(Check check) {
        super(check);
    }

    @Override
    Runnable[] tests() {
        return new Runnable[] {
            this::atMostSixTrams, this::alwaysOnItsLine, this::newTramOnANewLine, this::newTramWhereAnotherWas,
            this::everyTramMoves, this::turnsAtBothEnds, this::extendedLine, this::numberOfANewTram,
            this::tramOnAMissingLine, this::sevenTrams, this::tickPasses, this::arrivalsInATick, this::noArrivals,
            this::tickCount, this::tramCount, this::lineOfTram, this::lineOfAMissingTram, this::stopOfTram,
            this::stopOfAMissingTram, this::isForward, this::isForwardOfAMissingTram, this::crowdOf,
            this::crowdOfAMissingTram, this::fullestTram, this::fullestOfNone, this::arrivalOf,
            this::arrivalAfterAnExtension, this::arrivalOfAMissingTramOrStop, this::arrivalAtAStopElsewhere,
            this::arrivalBySimulation, this::simulationChangesNothing, this::simulationOfAMissingTramOrStop,
            this::simulationToAStopElsewhere,
        };
    }

    /** The position of a tram on a line, so many ticks after the tram was new. */
    private static int position(int length, int ticks) {
        int round = 2 * (length - 1);
        int passed = ticks % round;
        return passed < length ? passed : round - passed;
    }

    private static boolean forward(int length, int ticks) {
        return ticks % (2 * (length - 1)) < length - 1;
    }

    private static Scene onLineOf(int length, int ticks) {
        return Scene.lineOf(length).then("a tram, " + ticks + " ticks", one -> {
            one.addTram(0);
            Scene.times(ticks, one::tick);
        });
    }

    private void atMostSixTrams() {
        sentence("Terms", "There are at most 6 trams, numbered from 0.");
        TramNetwork network = Scene.lines(5).make();
        for (int tram = 0; tram < 6; tram++) {
            same("addTram", tram, network.addTram(tram % 5));
        }
        throwsOnly(Scene.trams(6), "a seventh addTram", STATE, one -> one.addTram(0));
        throwsOnly(Scene.trams(6), "a seventh addTram on another line", STATE, one -> one.addTram(1));
        Scene refused = Scene.trams(5).then("addTram(2)", one -> outcome(one, at -> at.addTram(2)));
        answers(refused, "a refused tram takes no number: addTram(0)", 5, one -> one.addTram(0));
        answers(Scene.trams(6).then("undo", TramNetwork::undo), "room again: addTram(1)", 5, one -> one.addTram(1));
    }

    private void alwaysOnItsLine() {
        sentence("Terms", "A tram belongs to a line, is at a position of this line, and moves forward or backward.");
        for (int length = 2; length <= 6; length++) {
            for (int ticks = 0; ticks <= 21; ticks++) {
                Scene scene = onLineOf(length, ticks);
                answers(scene, "lineOfTram(0)", 0, one -> one.lineOfTram(0));
                answers(scene, "stopOfTram(0)", position(length, ticks), one -> one.stopOfTram(0));
                answers(scene, "isForward(0)", forward(length, ticks), one -> one.isForward(0));
            }
        }
    }

    private void newTramOnANewLine() {
        sentence("Terms", "A new tram is at position 0 and moves forward.");
        for (int length = 2; length <= 6; length++) {
            answers(onLineOf(length, 0), "stopOfTram(0)", 0, one -> one.stopOfTram(0));
            answers(onLineOf(length, 0), "isForward(0)", true, one -> one.isForward(0));
        }
        Scene later = Scene.trams(1).then("2 ticks, another tram", one -> {
            one.tick();
            one.tick();
            one.addTram(0);
        });
        answers(later, "stopOfTram(0) of the older tram", 2, one -> one.stopOfTram(0));
        answers(later, "stopOfTram(1) of the new tram", 0, one -> one.stopOfTram(1));
        answers(later, "isForward(1) of the new tram", true, one -> one.isForward(1));
    }

    private void newTramWhereAnotherWas() {
        sentence("Terms", "A new tram is at position 0 and moves forward.");
        for (int ticks = 1; ticks <= 4; ticks++) {
            int passed = ticks;
            Scene again = Scene.trams(0).then("saved, a tram, " + ticks + " ticks, restored", one -> {
                one.save();
                one.addTram(0);
                Scene.times(passed, one::tick);
                one.restore();
                one.addTram(0);
            });
            answers(again, "stopOfTram(0)", 0, one -> one.stopOfTram(0));
            answers(again, "isForward(0)", true, one -> one.isForward(0));
        }
    }

    private void everyTramMoves() {
        sentence("Terms", "In a tick every tram moves to the next position in its direction.");
        Scene scene = Scene.full().then("undo", TramNetwork::undo);
        for (int tram = 0; tram < 6; tram++) {
            int at = tram;
            answers(scene, "stopOfTram(" + at + ") before", at % 5, one -> one.stopOfTram(at));
            answers(scene.then("tick", TramNetwork::tick), "stopOfTram(" + at + ") after", at % 5 + 1,
                one -> one.stopOfTram(at));
        }
        Scene mixed = Scene.lineOf(4).then("four trams, a tick between them", one -> {
            for (int tram = 0; tram < 4; tram++) {
                one.addTram(0);
                one.tick();
            }
        });
        int[] due = {2, 3, 2, 1};
        for (int tram = 0; tram < 4; tram++) {
            int at = tram;
            answers(mixed, "stopOfTram(" + at + ")", due[at], one -> one.stopOfTram(at));
            answers(mixed, "isForward(" + at + ")", at > 1, one -> one.isForward(at));
        }
    }

    private void turnsAtBothEnds() {
        sentence("Terms", TURNS);
        for (int length = 2; length <= 6; length++) {
            int last = length - 1;
            if (length > 2) {
                answers(onLineOf(length, last - 1), "isForward(0) before the end", true, one -> one.isForward(0));
                answers(onLineOf(length, 2 * last - 1), "isForward(0) before 0", false, one -> one.isForward(0));
            }
            answers(onLineOf(length, last), "stopOfTram(0) at the end", last, one -> one.stopOfTram(0));
            answers(onLineOf(length, last), "isForward(0) at the end", false, one -> one.isForward(0));
            answers(onLineOf(length, last + 1), "stopOfTram(0) behind the end", last - 1, one -> one.stopOfTram(0));
            answers(onLineOf(length, 2 * last), "stopOfTram(0) back at 0", 0, one -> one.stopOfTram(0));
            answers(onLineOf(length, 2 * last), "isForward(0) back at 0", true, one -> one.isForward(0));
            answers(onLineOf(length, 2 * last + 1), "stopOfTram(0) in a new round", 1, one -> one.stopOfTram(0));
        }
    }

    private void extendedLine() {
        sentence("Terms", "If a line is extended, its trams keep their positions and directions.");
        for (int length = 2; length <= 5; length++) {
            for (int ticks = 0; ticks < 2 * (length - 1); ticks++) {
                Scene scene = onLineOf(length, ticks).then("extendLine(0, 9)", one -> one.extendLine(0, 9));
                answers(scene, "stopOfTram(0)", position(length, ticks), one -> one.stopOfTram(0));
                answers(scene, "isForward(0)", forward(length, ticks), one -> one.isForward(0));
            }
            Scene passing = onLineOf(length, length - 2).then("extendLine(0, 9), tick", one -> {
                one.extendLine(0, 9);
                one.tick();
            });
            answers(passing, "no end any more: isForward(0)", true, one -> one.isForward(0));
            answers(passing, "no end any more: stopOfTram(0)", length - 1, one -> one.stopOfTram(0));
            answers(passing.then("tick", TramNetwork::tick), "the new end", 9, one -> one.stopOfTram(0));
            Scene turned = onLineOf(length, length - 1).then("extendLine(0, 9), tick", one -> {
                one.extendLine(0, 9);
                one.tick();
            });
            answers(turned, "turned before the extension: stopOfTram(0)", length - 2, one -> one.stopOfTram(0));
        }
    }

    private void numberOfANewTram() {
        sentence("P12", "Returns the number of the tram.");
        for (int count = 0; count < 6; count++) {
            answers(Scene.trams(count), "addTram(1)", count, one -> one.addTram(1));
        }
    }

    private void tramOnAMissingLine() {
        sentence("P12", "Throws `IndexOutOfBoundsException` if there is no such line");
        numbers("addTram", Scene::lines, 5, TramNetwork::addTram);
        refuses(Scene.trams(6), "addTram(2)", INDEX, one -> one.addTram(2));
        refuses(Scene.trams(6), "addTram(-1)", INDEX, one -> one.addTram(-1));
    }

    private void sevenTrams() {
        sentence("P12", "Throws `IllegalStateException` if there are 6 trams");
        answers(Scene.trams(5), "addTram(0)", 5, one -> one.addTram(0));
        refuses(Scene.trams(6), "addTram(0)", STATE, one -> one.addTram(0));
        refuses(Scene.trams(6), "addTram(1)", STATE, one -> one.addTram(1));
        refuses(Scene.full(), "addTram(4)", STATE, one -> one.addTram(4));
    }

    private void tickPasses() {
        sentence("P13", "Lets a tick pass.");
        answers(Scene.nothing().then("tick", TramNetwork::tick), "tickCount()", 1, TramNetwork::tickCount);
        TramNetwork network = Scene.trams(1).make();
        // With the 15 calls that make the scene, 500 are within the 512 of an object.
        for (int passed = 1; passed <= 160; passed++) {
            network.tick();
            same("tickCount()", passed, network.tickCount());
            same("stopOfTram(0) after " + passed + " ticks", position(3, passed), network.stopOfTram(0));
        }
    }

    private void arrivalsInATick() {
        sentence("P13", "Returns the number of trams that arrived at an end of their line in this tick.");
        for (int count = 0; count <= 6; count++) {
            int trams = count;
            for (int length = 2; length <= 6; length++) {
                TramNetwork network = Scene.lineOf(length).make();
                Scene.times(trams, () -> network.addTram(0));
                for (int ticks = 1; ticks <= 2 * length; ticks++) {
                    boolean end = ticks % (length - 1) == 0;
                    same("tick() with " + trams + " trams, " + length + " stops, " + ticks + " ticks",
                        end ? trams : 0, network.tick());
                }
            }
        }
        arrivalsOnLinesOfAllLengths();
        Scene both = Scene.lineOf(3).then("trams at both sides and between", one -> {
            one.addTram(0);
            one.tick();
            one.addTram(0);
            one.tick();
            one.tick();
            one.addTram(0);
        });
        answers(both, "tick() with one arriving at 0, one leaving the end, one leaving 0", 1, TramNetwork::tick);
    }

    /** Line l has l + 2 stops and a tram; each arrives at its own time. */
    private void arrivalsOnLinesOfAllLengths() {
        TramNetwork network = Scene.stops(10).make();
        for (int line = 4; line >= 0; line--) {
            int number = network.addLine(0, 1);
            for (int stop = 2; stop < line + 2; stop++) {
                network.extendLine(number, stop);
            }
            network.addTram(number);
        }
        for (int ticks = 1; ticks <= 61; ticks++) {
            int due = 0;
            for (int length = 2; length <= 6; length++) {
                due += ticks % (length - 1) == 0 ? 1 : 0;
            }
            same("tick() of five lines, " + ticks + " ticks", due, network.tick());
        }
    }

    private void noArrivals() {
        sentence("P13", "Returns the number of trams that arrived at an end of their line in this tick.");
        answers(Scene.nothing(), "tick()", 0, TramNetwork::tick);
        answers(Scene.lines(5), "tick() of lines without trams", 0, TramNetwork::tick);
        answers(onLineOf(3, 0), "tick() of a tram that leaves 0", 0, TramNetwork::tick);
        answers(onLineOf(3, 2), "tick() of a tram that leaves the end", 0, TramNetwork::tick);
        answers(onLineOf(2, 0).then("extended", one -> one.extendLine(0, 9)), "tick() to an end that is none any more",
            0, TramNetwork::tick);
        answers(onLineOf(2, 1).then("extended", one -> one.extendLine(0, 9)), "tick() back to 0", 1,
            TramNetwork::tick);
    }

    private void tickCount() {
        sentence("P14", "Returns the number of ticks that have passed.");
        answers(Scene.nothing(), "tickCount()", 0, TramNetwork::tickCount);
        TramNetwork network = new TramNetwork();
        Scene.times(511, network::tick);
        same("tickCount() as the last of 512 calls", 511, network.tickCount());
        Scene undone = Scene.nothing().then("tick, undo", one -> {
            one.tick();
            one.undo();
        });
        answers(undone, "tickCount()", 0, TramNetwork::tickCount);
        Scene text = Scene.nothing().then("a text of 12 ticks",
            one -> Scene.executing(one, "tick;tick;tick;tick;tick;tick;tick;tick;tick;tick;tick;tick"));
        answers(text, "tickCount()", 12, TramNetwork::tickCount);
        Scene failed = Scene.nothing().then("a text that fails behind a tick",
            one -> Scene.executingInVain(one, "tick;stop 9"));
        answers(failed, "tickCount()", 0, TramNetwork::tickCount);
        answers(Scene.trams(1).then("arrivalBySimulation(0, 2)", one -> one.arrivalBySimulation(0, 2)),
            "tickCount()", 0, TramNetwork::tickCount);
    }

    private void tramCount() {
        sentence("P15", "Returns the number of trams.");
        for (int count = 0; count <= 6; count++) {
            answers(Scene.trams(count), "tramCount()", count, TramNetwork::tramCount);
        }
        answers(Scene.trams(1).then("undo", TramNetwork::undo), "tramCount()", 0, TramNetwork::tramCount);
    }

    private void lineOfTram() {
        sentence("P16", "Returns the number of its line.");
        for (int tram = 0; tram < 6; tram++) {
            int at = tram;
            answers(Scene.full(), "lineOfTram(" + at + ")", at % 5, one -> one.lineOfTram(at));
        }
    }

    private void lineOfAMissingTram() {
        sentence("P16", "Throws `IndexOutOfBoundsException` if there is no such tram");
        numbers("lineOfTram", Scene::trams, 6, TramNetwork::lineOfTram);
    }

    private void stopOfTram() {
        sentence("P17", "Returns the number of the stop.");
        for (int tram = 0; tram < 6; tram++) {
            int at = tram;
            answers(Scene.full(), "stopOfTram(" + at + ")", at % 5 + 1, one -> one.stopOfTram(at));
        }
        Scene last = Scene.stops(10).then("line 0 of stops 9 and 0, a tram", one -> one.addTram(one.addLine(9, 0)));
        answers(last, "stopOfTram(0)", 9, one -> one.stopOfTram(0));
        answers(last.then("tick", TramNetwork::tick), "stopOfTram(0)", 0, one -> one.stopOfTram(0));
    }

    private void stopOfAMissingTram() {
        sentence("P17", "Throws `IndexOutOfBoundsException` if there is no such tram");
        numbers("stopOfTram", Scene::trams, 6, TramNetwork::stopOfTram);
    }

    private void isForward() {
        sentence("P18", "Returns whether its next position is greater.");
        for (int length = 2; length <= 6; length++) {
            for (int ticks = 0; ticks <= 4 * (length - 1); ticks++) {
                boolean greater = position(length, ticks + 1) > position(length, ticks);
                answers(onLineOf(length, ticks), "isForward(0)", greater, one -> one.isForward(0));
            }
        }
    }

    private void isForwardOfAMissingTram() {
        sentence("P18", "Throws `IndexOutOfBoundsException` if there is no such tram");
        numbers("isForward", Scene::trams, 6, TramNetwork::isForward);
    }

    /** Eight passengers with tickets, and trams 0 to 5, at stop 0. */
    private static Scene crowd() {
        return Scene.trams(6).then("8 passengers with tickets", one -> {
            for (int passenger = 0; passenger < 8; passenger++) {
                one.addPassenger(0);
                one.sellTicket(passenger, 0, 9);
            }
        });
    }

    private static Scene boarded(int... trams) {
        return crowd().then("boarded in their order", one -> {
            for (int passenger = 0; passenger < trams.length; passenger++) {
                one.board(passenger, trams[passenger]);
            }
        });
    }

    private void crowdOf() {
        sentence("P19", "Returns the number of passengers on a tram.");
        for (int count = 0; count <= 8; count++) {
            Scene scene = boarded(new int[count]);
            answers(scene, "crowdOf(0)", count, one -> one.crowdOf(0));
            answers(scene, "crowdOf(1)", 0, one -> one.crowdOf(1));
            if (count > 0) {
                answers(scene.then("alight(0)", one -> one.alight(0)), "crowdOf(0)", count - 1, one -> one.crowdOf(0));
            }
        }
        Scene last = boarded(5, 5, 5, 5, 5, 5, 5, 0);
        answers(last, "crowdOf(5)", 7, one -> one.crowdOf(5));
        answers(last, "crowdOf(0)", 1, one -> one.crowdOf(0));
        answers(Scene.passengers(8), "crowdOf(0) with all at its stop", 0, one -> one.crowdOf(0));
    }

    private void crowdOfAMissingTram() {
        sentence("P19", "Throws `IndexOutOfBoundsException` if there is no such tram");
        numbers("crowdOf", Scene::trams, 6, TramNetwork::crowdOf);
    }

    private void fullestTram() {
        sentence("P20", "Returns the tram with the most passengers, and the lowest one in case of a tie.");
        for (int count = 1; count <= 6; count++) {
            answers(Scene.trams(count), "fullestTram() with all empty", 0, TramNetwork::fullestTram);
        }
        for (int tram = 0; tram < 6; tram++) {
            answers(boarded(tram), "fullestTram() with one passenger", tram, TramNetwork::fullestTram);
            answers(boarded(tram, tram, tram, tram, tram, tram, tram, tram), "fullestTram() with all", tram,
                TramNetwork::fullestTram);
            for (int other = tram + 1; other < 6; other++) {
                answers(boarded(other, tram), "fullestTram() in a tie", tram, TramNetwork::fullestTram);
                answers(boarded(other, tram, other), "fullestTram()", other, TramNetwork::fullestTram);
                answers(boarded(tram, other, tram), "fullestTram()", tram, TramNetwork::fullestTram);
            }
        }
        answers(boarded(5, 4, 3, 2, 1, 0), "fullestTram() with one on each", 0, TramNetwork::fullestTram);
        answers(boarded(5, 4, 3, 2, 1, 0, 5, 4), "fullestTram() with two on the last ones", 4,
            TramNetwork::fullestTram);
    }

    private void fullestOfNone() {
        sentence("P20", "Throws `NoSuchElementException` if there are no trams");
        refuses(Scene.nothing(), "fullestTram()", ELEMENT, TramNetwork::fullestTram);
        refuses(Scene.trams(0), "fullestTram()", ELEMENT, TramNetwork::fullestTram);
        refuses(Scene.trams(1).then("undo", TramNetwork::undo), "fullestTram()", ELEMENT, TramNetwork::fullestTram);
        answers(Scene.trams(1), "fullestTram()", 0, TramNetwork::fullestTram);
    }

    private interface Arrival {
        int ticks(TramNetwork network, int tram, int stop);
    }

    /** Every stop of every line, from every place and in both directions: at most one tick less than a round. */
    private void arrivals(String name, Arrival arrival) {
        for (int length = 2; length <= 6; length++) {
            for (int ticks = 0; ticks <= 2 * (length - 1); ticks++) {
                Scene scene = onLineOf(length, ticks);
                for (int stop = 0; stop < length; stop++) {
                    int at = stop;
                    int due = 0;
                    while (position(length, ticks + due) != at) {
                        due++;
                    }
                    answers(scene, name + "(0, " + at + ")", due, one -> arrival.ticks(one, 0, at));
                }
            }
        }
        arrivalsOfEveryTram(name, arrival);
        answers(onLineOf(6, 1), name + "(0, 0) over the whole line and back", 9, one -> arrival.ticks(one, 0, 0));
        answers(onLineOf(6, 6), name + "(0, 5) back to 0 and over the whole line", 9, one -> arrival.ticks(one, 0, 5));
        for (int tram = 0; tram < 6; tram++) {
            int at = tram;
            answers(Scene.full(), name + "(" + at + ", .) to the last stop", 4,
                one -> arrival.ticks(one, at, at % 5 + 5));
            answers(Scene.full(), name + "(" + at + ", .) where it is", 0, one -> arrival.ticks(one, at, at % 5 + 1));
        }
    }

    /** Tram t is t ticks behind tram 0, on line 0 of six stops; the last is on line 1. */
    private void arrivalsOfEveryTram(String name, Arrival arrival) {
        Scene scene = Scene.lineOf(6).then("line 1 of stops 7, 8, 9; six trams, a tick before each", one -> {
            one.addLine(7, 8);
            one.extendLine(1, 9);
            for (int tram = 0; tram < 6; tram++) {
                one.tick();
                one.addTram(tram / 5);
            }
            one.tick();
        });
        for (int tram = 0; tram < 5; tram++) {
            for (int stop = 0; stop < 6; stop++) {
                int which = tram;
                int at = stop;
                int due = 0;
                while (position(6, 6 - which + due) != at) {
                    due++;
                }
                answers(scene, name + "(" + which + ", " + at + ")", due, one -> arrival.ticks(one, which, at));
            }
        }
        answers(scene, name + "(5, 8)", 0, one -> arrival.ticks(one, 5, 8));
        answers(scene, name + "(5, 9)", 1, one -> arrival.ticks(one, 5, 9));
        answers(scene, name + "(5, 7)", 3, one -> arrival.ticks(one, 5, 7));
        throwsOnly(scene, name + "(5, 0)", ELEMENT, one -> arrival.ticks(one, 5, 0));
        throwsOnly(scene, name + "(0, 7)", ELEMENT, one -> arrival.ticks(one, 0, 7));
    }

    private void arrivalsAfterAnExtension(String name, Arrival arrival) {
        for (int length = 2; length <= 5; length++) {
            for (int ticks = 0; ticks < 2 * (length - 1); ticks++) {
                Scene scene = onLineOf(length, ticks).then("extendLine(0, 9)", one -> one.extendLine(0, 9));
                int at = position(length, ticks);
                boolean ahead = forward(length, ticks);
                answers(scene, name + "(0, 9) to the new end", ahead ? length - at : at + length,
                    one -> arrival.ticks(one, 0, 9));
                answers(scene, name + "(0, 0)", ahead && at > 0 ? length - at + length : at,
                    one -> arrival.ticks(one, 0, 0));
                answers(scene, name + " where it is", 0, one -> arrival.ticks(one, 0, at));
            }
        }
    }

    private void missingArrivals(String name, Arrival arrival) {
        numbers(name + "(., 0)", Scene::trams, 6, (one, number) -> arrival.ticks(one, number, 0));
        for (int count = 2; count <= 10; count++) {
            int behind = count;
            Scene scene = Scene.stops(count).then("line 0 of the first and the last stop, a tram",
                one -> one.addTram(one.addLine(0, behind - 1)));
            answers(scene, name + " with the last stop", 1, one -> arrival.ticks(one, 0, behind - 1));
            refuses(scene, name + "(0, " + behind + ")", INDEX, one -> arrival.ticks(one, 0, behind));
            refuses(scene, name + "(0, -1)", INDEX, one -> arrival.ticks(one, 0, -1));
        }
        refuses(Scene.trams(1), name + "(1, 10)", INDEX, one -> arrival.ticks(one, 1, 10));
        refuses(Scene.trams(1), name + "(1, 9)", INDEX, one -> arrival.ticks(one, 1, 9));
        refuses(Scene.trams(1), name + "(0, 32)", INDEX, one -> arrival.ticks(one, 0, 32));
    }

    private void arrivalsElsewhere(String name, Arrival arrival) {
        for (int length = 2; length <= 6; length++) {
            int behind = length;
            answers(onLineOf(length, 0), name + " at the last stop", length - 1,
                one -> arrival.ticks(one, 0, behind - 1));
            refuses(onLineOf(length, 0), name + " at a stop on no line", ELEMENT,
                one -> arrival.ticks(one, 0, behind));
            refuses(onLineOf(length, 1), name + " at a stop on no line", ELEMENT, one -> arrival.ticks(one, 0, 9));
        }
        refuses(Scene.trams(1), name + " at a stop of another line", ELEMENT, one -> arrival.ticks(one, 0, 4));
        Scene undone = onLineOf(3, 0).then("extended, undone", one -> {
            one.extendLine(0, 9);
            one.undo();
        });
        refuses(undone, name + " at a stop that is on the line no more", ELEMENT, one -> arrival.ticks(one, 0, 9));
    }

    private void arrivalOf() {
        sentence("P21", "Returns the number of ticks, 0 if the tram is at the stop.");
        arrivals("arrivalOf", TramNetwork::arrivalOf);
    }

    private void arrivalAfterAnExtension() {
        sentence("P21", "Returns the number of ticks until a tram is at a stop, by a formula.");
        arrivalsAfterAnExtension("arrivalOf", TramNetwork::arrivalOf);
    }

    private void arrivalOfAMissingTramOrStop() {
        sentence("P21", "Throws `IndexOutOfBoundsException` if there is no such tram or stop");
        missingArrivals("arrivalOf", TramNetwork::arrivalOf);
    }

    private void arrivalAtAStopElsewhere() {
        sentence("P21", "Throws `NoSuchElementException` if the stop is not on the line of the tram");
        arrivalsElsewhere("arrivalOf", TramNetwork::arrivalOf);
    }

    private void arrivalBySimulation() {
        sentence("P22", "Returns the same as arrivalOf, by simulating tick after tick.");
        arrivals("arrivalBySimulation", TramNetwork::arrivalBySimulation);
        arrivalsAfterAnExtension("arrivalBySimulation", TramNetwork::arrivalBySimulation);
    }

    private void simulationChangesNothing() {
        sentence("P22", "Returns the same as arrivalOf, by simulating tick after tick.");
        for (Scene scene : new Scene[] {Scene.town(), Scene.full()}) {
            alike("after a simulation", scene.portrait(),
                scene.then("arrivalBySimulation(0, 0)", one -> one.arrivalBySimulation(0, 0)));
        }
    }

    private void simulationOfAMissingTramOrStop() {
        sentence("P22", "Throws `IndexOutOfBoundsException` if there is no such tram or stop");
        missingArrivals("arrivalBySimulation", TramNetwork::arrivalBySimulation);
    }

    private void simulationToAStopElsewhere() {
        sentence("P22", "Throws `NoSuchElementException` if the stop is not on the line of the tram");
        arrivalsElsewhere("arrivalBySimulation", TramNetwork::arrivalBySimulation);
    }
}

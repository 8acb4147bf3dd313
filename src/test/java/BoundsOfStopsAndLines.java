/** Promises 1 to 11, and what "Terms" says of stops and lines. */
final class BoundsOfStopsAndLines extends Bounds {
    private static final String STOPS_AND_LINES = "There are at most 10 stops and at most 5 lines, each numbered from"
        + " 0 in the order in which they were added.";

    BoundsOfStopsAndLines(Check check) {
        super(check);
    }

    @Override
    Runnable[] tests() {
        return new Runnable[] {
            this::atMostTenStops, this::atMostFiveLines, this::zones, this::twoToSixDifferentStops, this::ends,
            this::terminusOfAnyLine, this::newObject, this::newObjectBesideAFullOne, this::stopOnNoLine,
            this::zoneOfANewStop, this::numberOfANewStop, this::zoneOutOfRange, this::elevenStops,
            this::lineWithTwoStops, this::firstStop, this::secondStop, this::numberOfANewLine,
            this::missingStopOfANewLine, this::lineWithTheSameStop, this::sixLines, this::appendedStop,
            this::positionOfAnAppendedStop, this::missingLineOrStopToExtend, this::stopOnTheLineAlready,
            this::sevenStops, this::stopCount, this::zoneOf, this::zoneOfAMissingStop, this::isTerminus,
            this::isTerminusOfAMissingStop, this::lineCount, this::lineLength, this::lengthOfAMissingLine,
            this::stopAt, this::stopAtOfAMissingLine, this::stopAtAMissingPosition, this::commonStops,
            this::commonStopsWithItself, this::commonStopsOfAMissingLine,
        };
    }

    private void atMostTenStops() {
        sentence("Terms", STOPS_AND_LINES);
        TramNetwork network = new TramNetwork();
        for (int stop = 0; stop < 10; stop++) {
            same("addStop", stop, network.addStop((stop + 1) % 4));
        }
        throwsOnly(Scene.stops(10), "an eleventh addStop", STATE, one -> one.addStop(0));
        for (int stop = 0; stop < 10; stop++) {
            same("zoneOf(" + stop + ") in the order of addStop", (stop + 1) % 4, network.zoneOf(stop));
        }
        Scene refused = Scene.stops(9).then("addStop(4)", one -> outcome(one, at -> at.addStop(4)));
        answers(refused, "a refused stop takes no number: addStop(0)", 9, one -> one.addStop(0));
        answers(Scene.stops(10).then("undo", TramNetwork::undo), "room again: addStop(0)", 9, one -> one.addStop(0));
    }

    private void atMostFiveLines() {
        sentence("Terms", STOPS_AND_LINES);
        TramNetwork network = Scene.stops(10).make();
        for (int line = 0; line < 5; line++) {
            same("addLine", line, network.addLine(9 - line, line));
        }
        throwsOnly(Scene.lines(5), "a sixth addLine", STATE, one -> one.addLine(8, 9));
        for (int line = 0; line < 5; line++) {
            same("stopAt(" + line + ", 0) in the order of addLine", 9 - line, network.stopAt(line, 0));
        }
        Scene refused = Scene.lines(4).then("addLine(1, 1)", one -> outcome(one, at -> at.addLine(1, 1)));
        answers(refused, "a refused line takes no number: addLine(0, 9)", 4, one -> one.addLine(0, 9));
        answers(Scene.lines(5).then("undo", TramNetwork::undo), "room again: addLine(0, 9)", 4,
            one -> one.addLine(0, 9));
    }

    private void zones() {
        sentence("Terms", "A stop belongs to one of the zones 0 to 3.");
        for (int zone = 0; zone <= 3; zone++) {
            int one = zone;
            answers(Scene.nothing(), "zoneOf a stop in zone " + zone, zone, at -> at.zoneOf(at.addStop(one)));
        }
        throwsOnly(Scene.nothing(), "addStop(-1)", ARGUMENT, one -> one.addStop(-1));
        throwsOnly(Scene.nothing(), "addStop(4)", ARGUMENT, one -> one.addStop(4));
    }

    private void twoToSixDifferentStops() {
        sentence("Terms", "A line is a list of 2 to 6 different stops, at positions from 0.");
        answers(Scene.stops(2), "the shortest line", 2, one -> one.lineLength(one.addLine(1, 0)));
        throwsOnly(Scene.stops(2), "a line of one stop", ARGUMENT, one -> one.addLine(1, 1));
        answers(Scene.lineOf(5), "a sixth stop", 5, one -> one.extendLine(0, 5));
        throwsOnly(Scene.lineOf(6), "a seventh stop", STATE, one -> one.extendLine(0, 6));
        for (int position = 0; position < 6; position++) {
            int at = position;
            answers(Scene.lineOf(6), "stopAt(0, " + at + ")", at, one -> one.stopAt(0, at));
        }
    }

    private void ends() {
        sentence("Terms", "The first and the last stop of a line are its ends.");
        for (int length = 2; length <= 6; length++) {
            for (int stop = 0; stop < 10; stop++) {
                int at = stop;
                answers(Scene.lineOf(length), "isTerminus(" + at + ")", at == 0 || at == length - 1,
                    one -> one.isTerminus(at));
            }
        }
    }

    private void terminusOfAnyLine() {
        sentence("Terms", "A stop is a terminus if it is an end of at least one line.");
        Scene five = Scene.stops(10).then("five lines", one -> {
            one.addLine(0, 1);
            one.extendLine(0, 2);
            one.extendLine(0, 3);
            one.addLine(3, 2);
            one.addLine(3, 0);
            one.extendLine(2, 4);
            one.addLine(4, 0);
            one.addLine(5, 6);
            one.extendLine(4, 7);
        });
        boolean[] due = {true, false, true, true, true, true, false, true, false, false};
        for (int stop = 0; stop < 10; stop++) {
            int at = stop;
            answers(five, "isTerminus(" + at + ")", due[at], one -> one.isTerminus(at));
        }
        Scene extended = five.then("line 1 extended", one -> one.extendLine(1, 6));
        answers(extended, "an end no more", false, one -> one.isTerminus(2));
        answers(extended, "an end of another line now", true, one -> one.isTerminus(6));
        answers(extended.then("undo", TramNetwork::undo), "an end again", true, one -> one.isTerminus(2));
    }

    private void newObject() {
        sentence("P1", "Creates a network without stops, lines, trams, passengers and secrets, at tick 0.");
        same("stopCount()", 0, new TramNetwork().stopCount());
        same("lineCount()", 0, new TramNetwork().lineCount());
        same("tramCount()", 0, new TramNetwork().tramCount());
        same("passengerCount()", 0, new TramNetwork().passengerCount());
        same("secretCount()", 0, new TramNetwork().secretCount());
        same("tickCount()", 0, new TramNetwork().tickCount());
        throwsOnly(Scene.nothing(), "zoneOf(0)", INDEX, one -> one.zoneOf(0));
        throwsOnly(Scene.nothing(), "lineLength(0)", INDEX, one -> one.lineLength(0));
        throwsOnly(Scene.nothing(), "lineOfTram(0)", INDEX, one -> one.lineOfTram(0));
        throwsOnly(Scene.nothing(), "ridesOf(0)", INDEX, one -> one.ridesOf(0));
        throwsOnly(Scene.nothing(), "carrierOf(0)", INDEX, one -> one.carrierOf(0));
        throwsOnly(Scene.nothing(), "errorPosition()", ELEMENT, TramNetwork::errorPosition);
        throwsOnly(Scene.nothing(), "failedCommand()", ELEMENT, TramNetwork::failedCommand);
        throwsOnly(Scene.nothing(), "undo()", STATE, TramNetwork::undo);
        throwsOnly(Scene.nothing(), "restore()", STATE, TramNetwork::restore);
    }

    private void newObjectBesideAFullOne() {
        sentence("P1", "Creates a network without stops, lines, trams, passengers and secrets, at tick 0.");
        TramNetwork full = Scene.full().make();
        TramNetwork second = new TramNetwork();
        same("stopCount()", 0, second.stopCount());
        same("lineCount()", 0, second.lineCount());
        same("tramCount()", 0, second.tramCount());
        same("passengerCount()", 0, second.passengerCount());
        same("secretCount()", 0, second.secretCount());
        same("tickCount()", 0, second.tickCount());
        same("type('x')", 1, second.type('x'));
        same("textAt(0)", "IndexOutOfBoundsException", outcome(second, one -> one.textAt(0)));
        same("undo()", "IllegalStateException", outcome(second, TramNetwork::undo));
        same("restore()", "IllegalStateException", outcome(second, TramNetwork::restore));
        same("stopCount() of the other object", 10, full.stopCount());
    }

    private void stopOnNoLine() {
        sentence("P2", "Adds a stop, which is on no line yet.");
        Scene scene = Scene.lines(5).then("undo of all but three stops", one -> Scene.times(8, one::undo))
            .then("line 0 of stops 0 and 1, stop 7", one -> {
                one.addLine(0, 1);
                one.addStop(0);
            });
        answers(scene, "isTerminus(7)", false, one -> one.isTerminus(7));
        throwsOnly(scene, "distance(0, 7)", ELEMENT, one -> one.distance(0, 7));
        throwsOnly(scene, "changes(7, 1)", ELEMENT, one -> one.changes(7, 1));
        answers(scene, "lineLength(0)", 2, one -> one.lineLength(0));
    }

    private void zoneOfANewStop() {
        sentence("P2", "`zone`: its zone, 0 to 3");
        for (int zone = -2; zone <= 5; zone++) {
            int one = zone;
            if (zone >= 0 && zone <= 3) {
                answers(Scene.stops(9), "addStop(" + zone + ")", 9, at -> at.addStop(one));
                answers(Scene.stops(9), "zoneOf after addStop(" + zone + ")", zone, at -> at.zoneOf(at.addStop(one)));
            } else {
                throwsOnly(Scene.stops(9), "addStop(" + zone + ")", ARGUMENT, at -> at.addStop(one));
            }
        }
    }

    private void numberOfANewStop() {
        sentence("P2", "Returns the number of the stop.");
        for (int count = 0; count < 10; count++) {
            answers(Scene.stops(count), "addStop(3)", count, one -> one.addStop(3));
        }
    }

    private void zoneOutOfRange() {
        sentence("P2", "Throws `IllegalArgumentException` if the zone is out of range");
        for (int zone : new int[] {-1, 4, Integer.MIN_VALUE, Integer.MAX_VALUE, -4, 8, 32, 256, 65536}) {
            refuses(Scene.nothing(), "addStop(" + zone + ")", ARGUMENT, one -> one.addStop(zone));
            refuses(Scene.stops(9), "addStop(" + zone + ")", ARGUMENT, one -> one.addStop(zone));
            refuses(Scene.stops(10), "addStop(" + zone + ")", ARGUMENT, one -> one.addStop(zone));
        }
    }

    private void elevenStops() {
        sentence("P2", "Throws `IllegalStateException` if there are 10 stops");
        answers(Scene.stops(9), "addStop(0)", 9, one -> one.addStop(0));
        for (int zone = 0; zone <= 3; zone++) {
            int one = zone;
            refuses(Scene.stops(10), "addStop(" + zone + ")", STATE, at -> at.addStop(one));
        }
        refuses(Scene.full(), "addStop(0)", STATE, one -> one.addStop(0));
    }

    private void lineWithTwoStops() {
        sentence("P3", "Adds a line with two stops.");
        answers(Scene.stops(2), "lineLength", 2, one -> one.lineLength(one.addLine(0, 1)));
        Scene shrunk = Scene.lineOf(6).then("undo of the line", one -> Scene.times(5, one::undo));
        answers(shrunk, "lineLength where a longer line stood before", 2, one -> one.lineLength(one.addLine(9, 8)));
        answers(shrunk, "writeLine where a longer line stood before", "9-8", one -> {
            one.writeLine(one.addLine(9, 8));
            return Portrait.written(one);
        });
        answers(shrunk, "commonStops where a longer line stood before", 0,
            one -> one.commonStops(one.addLine(9, 8), one.addLine(0, 3)));
    }

    private void firstStop() {
        sentence("P3", "`first`: the stop at position 0");
        answers(Scene.stops(10), "stopAt(0, 0)", 9, one -> one.stopAt(one.addLine(9, 0), 0));
        answers(Scene.stops(10), "stopAt(0, 0)", 0, one -> one.stopAt(one.addLine(0, 9), 0));
    }

    private void secondStop() {
        sentence("P3", "`second`: the stop at position 1");
        answers(Scene.stops(10), "stopAt(0, 1)", 0, one -> one.stopAt(one.addLine(9, 0), 1));
        answers(Scene.stops(10), "stopAt(0, 1)", 9, one -> one.stopAt(one.addLine(0, 9), 1));
        throwsOnly(Scene.stops(10), "stopAt(0, 2)", ELEMENT, one -> one.stopAt(one.addLine(9, 0), 2));
    }

    private void numberOfANewLine() {
        sentence("P3", "Returns the number of the line.");
        for (int count = 0; count < 5; count++) {
            answers(Scene.lines(count), "addLine(9, 8)", count, one -> one.addLine(9, 8));
        }
    }

    private void missingStopOfANewLine() {
        sentence("P3", "Throws `IndexOutOfBoundsException` if either stop does not exist");
        numbers("addLine(., 0)", Scene::stops, 10, (one, number) -> one.addLine(number, 0));
        numbers("addLine(0, .)", Scene::stops, 10, (one, number) -> one.addLine(0, number));
        refuses(Scene.stops(3), "addLine(3, 0)", INDEX, one -> one.addLine(3, 0));
        refuses(Scene.stops(3), "addLine(0, 3)", INDEX, one -> one.addLine(0, 3));
        refuses(Scene.stops(3), "addLine(-1, 0)", INDEX, one -> one.addLine(-1, 0));
        refuses(Scene.stops(3), "addLine(0, -1)", INDEX, one -> one.addLine(0, -1));
        refuses(Scene.stops(3), "addLine(3, 3)", INDEX, one -> one.addLine(3, 3));
        refuses(Scene.lines(5), "addLine(0, 10)", INDEX, one -> one.addLine(0, 10));
        answers(Scene.stops(3), "addLine(0, 2)", 0, one -> one.addLine(0, 2));
        answers(Scene.stops(3), "addLine(2, 0)", 0, one -> one.addLine(2, 0));
    }

    private void lineWithTheSameStop() {
        sentence("P3", "Throws `IllegalArgumentException` if both stops are the same");
        for (int stop = 0; stop < 10; stop++) {
            int one = stop;
            refuses(Scene.lines(4), "addLine(" + stop + ", " + stop + ")", ARGUMENT, at -> at.addLine(one, one));
            refuses(Scene.lines(5), "addLine(" + stop + ", " + stop + ")", ARGUMENT, at -> at.addLine(one, one));
        }
        answers(Scene.lines(4), "addLine(0, 1)", 4, one -> one.addLine(0, 1));
    }

    private void sixLines() {
        sentence("P3", "Throws `IllegalStateException` if there are 5 lines");
        answers(Scene.lines(4), "addLine(0, 1)", 4, one -> one.addLine(0, 1));
        refuses(Scene.lines(5), "addLine(0, 1)", STATE, one -> one.addLine(0, 1));
        refuses(Scene.lines(5), "addLine(9, 8)", STATE, one -> one.addLine(9, 8));
        refuses(Scene.full(), "addLine(0, 9)", STATE, one -> one.addLine(0, 9));
    }

    private void appendedStop() {
        sentence("P4", "Appends a stop to the end of a line.");
        for (int length = 2; length < 6; length++) {
            int at = length;
            Scene longer = Scene.lineOf(length).then("extendLine(0, 9)", one -> one.extendLine(0, 9));
            answers(longer, "lineLength(0)", at + 1, one -> one.lineLength(0));
            answers(longer, "stopAt(0, " + at + ")", 9, one -> one.stopAt(0, at));
            answers(longer, "stopAt(0, " + (at - 1) + ")", at - 1, one -> one.stopAt(0, at - 1));
            answers(longer, "isTerminus(9)", true, one -> one.isTerminus(9));
            answers(longer, "isTerminus(" + (at - 1) + ")", false, one -> one.isTerminus(at - 1));
        }
        Scene last = Scene.lines(5).then("line 4 extended", one -> one.extendLine(4, 0));
        answers(last, "the line before", 2, one -> one.lineLength(3));
        answers(last, "the last line", 3, one -> one.lineLength(4));
    }

    private void positionOfAnAppendedStop() {
        sentence("P4", "Returns the position of the stop.");
        for (int length = 2; length < 6; length++) {
            answers(Scene.lineOf(length), "extendLine(0, 9)", length, one -> one.extendLine(0, 9));
        }
    }

    private void missingLineOrStopToExtend() {
        sentence("P4", "Throws `IndexOutOfBoundsException` if there is no such line or stop");
        numbers("extendLine(., 9)", Scene::lines, 5, (one, number) -> one.extendLine(number, 9));
        for (int count = 2; count <= 10; count++) {
            int behind = count;
            Scene scene = Scene.stops(count).then("line 0 of stops 0 and 1", one -> one.addLine(0, 1));
            refuses(scene, "extendLine(0, -1)", INDEX, one -> one.extendLine(0, -1));
            refuses(scene, "extendLine(0, " + behind + ")", INDEX, one -> one.extendLine(0, behind));
            if (count > 2) {
                answers(scene, "extendLine(0, " + (behind - 1) + ")", 2, one -> one.extendLine(0, behind - 1));
            }
        }
        refuses(Scene.lines(1), "extendLine(1, 5)", INDEX, one -> one.extendLine(1, 5));
        refuses(Scene.lines(1), "extendLine(-1, 5)", INDEX, one -> one.extendLine(-1, 5));
        refuses(Scene.lines(1), "extendLine(0, 10)", INDEX, one -> one.extendLine(0, 10));
        refuses(Scene.lines(1), "extendLine(0, -1)", INDEX, one -> one.extendLine(0, -1));
        refuses(Scene.lines(1), "extendLine(1, 10)", INDEX, one -> one.extendLine(1, 10));
        refuses(Scene.lineOf(6), "extendLine(0, 10)", INDEX, one -> one.extendLine(0, 10));
    }

    private void stopOnTheLineAlready() {
        sentence("P4", "Throws `IllegalArgumentException` if the stop is on the line already");
        for (int length = 2; length <= 6; length++) {
            for (int stop = 0; stop < length; stop++) {
                int at = stop;
                refuses(Scene.lineOf(length), "extendLine(0, " + at + ")", ARGUMENT, one -> one.extendLine(0, at));
            }
        }
        answers(Scene.lines(2), "a stop of another line alone", 2, one -> one.extendLine(0, 2));
        Scene undone = Scene.lineOf(3).then("undo", TramNetwork::undo);
        answers(undone, "a stop that is on the line no more", 2, one -> one.extendLine(0, 2));
    }

    private void sevenStops() {
        sentence("P4", "Throws `IllegalStateException` if the line has 6 stops");
        answers(Scene.lineOf(5), "extendLine(0, 9)", 5, one -> one.extendLine(0, 9));
        for (int stop = 6; stop < 10; stop++) {
            int at = stop;
            refuses(Scene.lineOf(6), "extendLine(0, " + at + ")", STATE, one -> one.extendLine(0, at));
        }
        refuses(Scene.full(), "extendLine(4, 0)", STATE, one -> one.extendLine(4, 0));
        Scene second = Scene.lineOf(6).then("line 1", one -> one.addLine(8, 9));
        answers(second, "another line", 2, one -> one.extendLine(1, 7));
    }

    private void stopCount() {
        sentence("P5", "Returns the number of stops.");
        for (int count = 0; count <= 10; count++) {
            answers(Scene.stops(count), "stopCount()", count, TramNetwork::stopCount);
        }
        answers(Scene.full(), "stopCount()", 10, TramNetwork::stopCount);
        answers(Scene.stops(1).then("undo", TramNetwork::undo), "stopCount()", 0, TramNetwork::stopCount);
    }

    private void zoneOf() {
        sentence("P6", "Returns the zone of a stop.");
        for (int count = 1; count <= 10; count++) {
            int last = count - 1;
            answers(Scene.stops(count), "zoneOf(0)", 0, one -> one.zoneOf(0));
            answers(Scene.stops(count), "zoneOf(" + last + ")", last % 4, one -> one.zoneOf(last));
        }
        Scene again = Scene.stops(4).then("undo", TramNetwork::undo).then("addStop(1)", one -> one.addStop(1));
        answers(again, "zoneOf(3) after another stop", 1, one -> one.zoneOf(3));
    }

    private void zoneOfAMissingStop() {
        sentence("P6", "Throws `IndexOutOfBoundsException` if there is no such stop");
        numbers("zoneOf", Scene::stops, 10, TramNetwork::zoneOf);
    }

    private void isTerminus() {
        sentence("P7", "Returns whether it is a terminus.");
        answers(Scene.stops(1), "no line", false, one -> one.isTerminus(0));
        answers(Scene.lines(1), "the first stop", true, one -> one.isTerminus(0));
        answers(Scene.lines(1), "the last stop", true, one -> one.isTerminus(1));
        answers(Scene.lines(1), "a stop on no line", false, one -> one.isTerminus(2));
        answers(Scene.lineOf(6), "the last stop but one", false, one -> one.isTerminus(4));
        answers(Scene.lineOf(6), "the last stop", true, one -> one.isTerminus(5));
        answers(Scene.lineOf(6), "a stop behind the last", false, one -> one.isTerminus(6));
        Scene last = Scene.stops(10).then("line 0 of stops 8 and 9", one -> one.addLine(8, 9));
        answers(last, "a stop on no line", false, one -> one.isTerminus(0));
        answers(last, "the last of all stops", true, one -> one.isTerminus(9));
    }

    private void isTerminusOfAMissingStop() {
        sentence("P7", "Throws `IndexOutOfBoundsException` if there is no such stop");
        numbers("isTerminus", Scene::stops, 10, TramNetwork::isTerminus);
    }

    private void lineCount() {
        sentence("P8", "Returns the number of lines.");
        for (int count = 0; count <= 5; count++) {
            answers(Scene.lines(count), "lineCount()", count, TramNetwork::lineCount);
        }
        answers(Scene.lineOf(6), "an extension adds no line: lineCount()", 1, TramNetwork::lineCount);
        answers(Scene.lines(1).then("undo", TramNetwork::undo), "lineCount()", 0, TramNetwork::lineCount);
    }

    private void lineLength() {
        sentence("P9", "Returns the number of stops of a line.");
        for (int length = 2; length <= 6; length++) {
            answers(Scene.lineOf(length), "lineLength(0)", length, one -> one.lineLength(0));
        }
        for (int line = 0; line < 5; line++) {
            int at = line;
            answers(Scene.lines(5).then("line 2 extended", one -> one.extendLine(2, 9)), "lineLength(" + at + ")",
                at == 2 ? 3 : 2, one -> one.lineLength(at));
            answers(Scene.full(), "lineLength(" + at + ")", 6, one -> one.lineLength(at));
        }
    }

    private void lengthOfAMissingLine() {
        sentence("P9", "Throws `IndexOutOfBoundsException` if there is no such line");
        numbers("lineLength", Scene::lines, 5, TramNetwork::lineLength);
    }

    private void stopAt() {
        sentence("P10", "`position`: the position, from 0");
        for (int line = 0; line < 5; line++) {
            for (int position = 0; position < 6; position++) {
                int at = line;
                int place = position;
                answers(Scene.full(), "stopAt(" + at + ", " + place + ")", at + place, one -> one.stopAt(at, place));
            }
        }
    }

    private void stopAtOfAMissingLine() {
        sentence("P10", "Throws `IndexOutOfBoundsException` if there is no such line");
        numbers("stopAt(., 0)", Scene::lines, 5, (one, number) -> one.stopAt(number, 0));
        numbers("stopAt(., 1)", Scene::lines, 5, (one, number) -> one.stopAt(number, 1));
        refuses(Scene.lines(5), "stopAt(5, -1)", INDEX, one -> one.stopAt(5, -1));
        refuses(Scene.lines(5), "stopAt(-1, 2)", INDEX, one -> one.stopAt(-1, 2));
    }

    private void stopAtAMissingPosition() {
        sentence("P10", "Throws `NoSuchElementException` if there is no such position");
        for (int length = 2; length <= 6; length++) {
            int last = length - 1;
            answers(Scene.lineOf(length), "stopAt(0, " + last + ")", last, one -> one.stopAt(0, last));
            for (int position : new int[] {-1, length, length + 1, 6, 7, 32, 65536, Integer.MIN_VALUE,
                Integer.MAX_VALUE}) {
                refuses(Scene.lineOf(length), "stopAt(0, " + position + ")", ELEMENT, one -> one.stopAt(0, position));
            }
        }
        Scene shrunk = Scene.lineOf(6).then("undo", TramNetwork::undo);
        refuses(shrunk, "a position that is there no more", ELEMENT, one -> one.stopAt(0, 5));
    }

    private void commonStops() {
        sentence("P11", "Returns the number of stops that two lines have in common.");
        Scene two = Scene.lineOf(6).then("line 1 of stops 9 and 8", one -> one.addLine(9, 8));
        for (int common = 0; common <= 4; common++) {
            int due = common;
            Scene extended = two.then(common + " stops of line 0 appended", one -> {
                for (int stop = 5; stop > 5 - due; stop--) {
                    one.extendLine(1, stop);
                }
            });
            answers(extended, "commonStops(0, 1)", due, one -> one.commonStops(0, 1));
            answers(extended, "commonStops(1, 0)", due, one -> one.commonStops(1, 0));
        }
        Scene turned = Scene.lineOf(6).then("line 1 of the same stops", one -> {
            one.addLine(5, 4);
            for (int stop = 3; stop >= 0; stop--) {
                one.extendLine(1, stop);
            }
        });
        answers(turned, "commonStops(0, 1)", 6, one -> one.commonStops(0, 1));
        answers(Scene.full(), "commonStops(0, 4)", 2, one -> one.commonStops(0, 4));
        answers(Scene.lines(2), "one in common", 1, one -> one.commonStops(0, 1));
    }

    private void commonStopsWithItself() {
        sentence("P11", "`other`: number of a line, which may be the same");
        for (int length = 2; length <= 6; length++) {
            answers(Scene.lineOf(length), "commonStops(0, 0)", length, one -> one.commonStops(0, 0));
        }
        answers(Scene.full(), "commonStops(4, 4)", 6, one -> one.commonStops(4, 4));
    }

    private void commonStopsOfAMissingLine() {
        sentence("P11", "Throws `IndexOutOfBoundsException` if either line does not exist");
        numbers("commonStops(., 0)", Scene::lines, 5, (one, number) -> one.commonStops(number, 0));
        numbers("commonStops(0, .)", Scene::lines, 5, (one, number) -> one.commonStops(0, number));
        refuses(Scene.lines(2), "commonStops(2, 2)", INDEX, one -> one.commonStops(2, 2));
        refuses(Scene.lines(2), "commonStops(-1, -1)", INDEX, one -> one.commonStops(-1, -1));
    }
}

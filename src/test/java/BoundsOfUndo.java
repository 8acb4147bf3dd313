import java.util.ArrayList;
import java.util.List;

/** Promises 56 to 58, and what "Terms" says of undo, snapshots and exceptions. */
final class BoundsOfUndo extends Bounds {
    private static final String LAST_EIGHT = "The last 8 successful modifications can be undone.";
    private static final String MODIFICATIONS = "The modifications are the successful calls of addStop, addLine,"
        + " extendLine, addTram, addPassenger, sellTicket, board, alight, addSecret, whisper, tick and execute.";
    private static final String NO_PART = "The text buffer, the error position, the index of the failed command and the"
        + " line of text are not part of the state that is undone, saved or restored.";
    private static final String UNCHANGED = "A method that throws an exception leaves the state unchanged, except that"
        + " execute empties the text buffer.";
    private static final String FIRST = "If several exceptions apply, the one that is documented first is thrown.";
    private static final String RESTORES = "Restores the snapshot, which is kept.";
    private static final String TWELVE_TICKS = "tick;tick;tick;tick;tick;tick;tick;tick;tick;tick;tick;tick";

    BoundsOfUndo(Check check) {
        super(check);
    }

    @Override
    Runnable[] tests() {
        return new Runnable[] {
            this::lastOf512Calls, this::noneToTwentyModifications, this::ringOfEight,
            this::eightDifferentModifications, this::everyModification, this::everyModificationOfAFullNetwork,
            this::nothingElse, this::refusedCallsAreNone,
            this::bufferIsNoPart, this::errorPositionIsNoPart, this::failedCommandIsNoPart, this::lineOfTextIsNoPart,
            this::refusedModificationsChangeNothing, this::refusedQuestionsChangeNothing,
            this::refusedTextEmptiesTheBuffer, this::addingExceptions, this::passengerExceptions,
            this::questionExceptions, this::textExceptions, this::lastModification, this::leftToUndo,
            this::nothingToUndo, this::replacedSnapshot, this::savedPassengers, this::keptSnapshot,
            this::everythingIsRestored, this::overwrittenNumbersAreRestored, this::lastAlightingIsRestored,
            this::nothingToUndoAfterARestore, this::restoredPassengers, this::noSnapshot,
        };
    }

    private static Scene ticks(int count) {
        return Scene.nothing().then(count + " ticks", one -> Scene.times(count, one::tick));
    }

    /** The town with a saved and restored state, so that nothing can be undone, and an empty buffer. */
    private static Scene settled(Scene scene) {
        return scene.then("saved and restored, an empty buffer", one -> {
            one.save();
            one.restore();
            outcome(one, TramNetwork::execute);
        });
    }

    private void lastOf512Calls() {
        sentence("The head", "An object is used for at most 512 calls after it has been made; what later calls"
            + " answer is free.");
        answers(ticks(511), "the 512th call: tick()", 0, TramNetwork::tick);
        answers(ticks(511), "the 512th call: undo()", 7, TramNetwork::undo);
        answers(ticks(504), "the last eight calls: undo()", "7 6 5 4 3 2 1 0", one -> {
            StringBuilder left = new StringBuilder();
            for (int undone = 0; undone < 8; undone++) {
                left.append(undone > 0 ? " " : "").append(one.undo());
            }
            return left;
        });
        Scene texts = Scene.nothing().then("eight texts of 12 ticks", one ->
            Scene.times(8, () -> Scene.executing(one, TWELVE_TICKS)));
        Scene more = texts.then("31 refused calls", one -> {
            for (int call = 0; call < 31; call++) {
                outcome(one, at -> at.addStop(4));
            }
        });
        answers(more, "the 512th call: tickCount()", 96, TramNetwork::tickCount);
        answers(more, "the 512th call: undo()", 7, TramNetwork::undo);
    }

    private void noneToTwentyModifications() {
        sentence("Terms", LAST_EIGHT);
        for (int count = 0; count <= 20; count++) {
            TramNetwork network = ticks(count).make();
            int kept = Math.min(count, 8);
            for (int undone = 1; undone <= kept; undone++) {
                same("undo() " + undone + " after " + count + " ticks", kept - undone, network.undo());
                same("tickCount() then", count - undone, network.tickCount());
            }
            same("undo() of one more", STATE.getSimpleName(), outcome(network, TramNetwork::undo));
            same("tickCount() then", count - kept, network.tickCount());
            same("tick() afterwards, undo()", "0 0", network.tick() + " " + network.undo());
        }
    }

    /** Whatever was kept before, and wherever it was kept: modifications and undos in all orders. */
    private void ringOfEight() {
        sentence("Terms", LAST_EIGHT);
        for (int first = 0; first <= 17; first++) {
            for (int undone = 0; undone <= 9; undone++) {
                for (int second = 0; second <= 9; second++) {
                    TramNetwork network = ticks(first).make();
                    List<Integer> kept = new ArrayList<>();
                    for (int tick = Math.max(0, first - 8); tick < first; tick++) {
                        kept.add(tick);
                    }
                    undo(network, kept, undone);
                    for (int tick = 0; tick < second; tick++) {
                        kept.add(network.tickCount());
                        network.tick();
                        if (kept.size() > 8) {
                            kept.remove(0);
                        }
                    }
                    undo(network, kept, 9);
                }
            }
        }
    }

    private void undo(TramNetwork network, List<Integer> kept, int times) {
        for (int undone = 0; undone < times; undone++) {
            int before = network.tickCount();
            String got = outcome(network, TramNetwork::undo);
            if (kept.isEmpty()) {
                same("undo() of none", STATE.getSimpleName(), got);
                same("tickCount() then", before, network.tickCount());
            } else {
                int due = kept.remove(kept.size() - 1);
                same("undo()", kept.size(), got);
                same("tickCount() then", due, network.tickCount());
            }
        }
    }

    private interface Modification {
        Object on(TramNetwork network);
    }

    private static final String[] NAMES = {"addStop(3)", "addLine(1, 5)", "extendLine(2, 5)", "addTram(2)",
        "addPassenger(5)", "sellTicket(3, 3, 9)", "board(5, 0)", "alight(1)", "addSecret(4)", "whisper(0, 0)", "tick()",
        "a text"};
    private static final Modification[] MODIFY = {one -> one.addStop(3), one -> one.addLine(1, 5),
        one -> one.extendLine(2, 5), one -> one.addTram(2), one -> one.addPassenger(5),
        one -> one.sellTicket(3, 3, 9), one -> one.board(5, 0), one -> one.alight(1), one -> one.addSecret(4),
        one -> one.whisper(0, 0), TramNetwork::tick, BoundsOfUndo::executed};

    private static int executed(TramNetwork network) {
        Scene.executing(network, "stop 2;rider 0;ticket 4 3 1;secret 0;tick;tick;alight 0");
        return 7;
    }

    private void eightDifferentModifications() {
        sentence("Terms", LAST_EIGHT);
        int[] order = {0, 1, 2, 3, 4, 5, 6, 8, 9, 7, 11, 10};
        List<Scene> scenes = new ArrayList<>();
        scenes.add(settled(Scene.town()));
        for (int next : order) {
            scenes.add(scenes.get(scenes.size() - 1).then(NAMES[next], one -> MODIFY[next].on(one)));
        }
        Scene undone = scenes.get(scenes.size() - 1);
        for (int left = 7; left >= 0; left--) {
            answers(undone, "undo()", left, TramNetwork::undo);
            undone = undone.then("undone", TramNetwork::undo);
            sameState("undone", scenes.get(order.length - 8 + left), undone);
        }
        throwsOnly(undone, "undo()", STATE, TramNetwork::undo);
    }

    private void sameState(String what, Scene due, Scene got) {
        same(got + ": " + what, "", Portrait.difference(Portrait.ofState(due), Portrait.ofState(got)));
    }

    private void everyModification() {
        sentence("Terms", MODIFICATIONS);
        Scene before = settled(Scene.town());
        for (int index = 0; index < MODIFY.length; index++) {
            Modification modification = MODIFY[index];
            Scene after = before.then(NAMES[index], modification::on);
            answers(after, "undo()", 0, TramNetwork::undo);
            sameState("undone", before, after.then("undone", TramNetwork::undo));
            String changed = Portrait.difference(Portrait.ofState(before), Portrait.ofState(after));
            same(after + ": is anything changed", false, changed.isEmpty());
            Scene eighth = after.then("7 ticks", one -> Scene.times(7, one::tick));
            answers(eighth, "nine undos", "7 6 5 4 3 2 1 0 IllegalStateException", BoundsOfUndo::undoAll);
            sameState("the eighth but last is undone", before,
                eighth.then("8 undos", one -> Scene.times(8, one::undo)));
            Scene ninth = after.then("8 ticks", one -> Scene.times(8, one::tick));
            answers(ninth, "nine undos", "7 6 5 4 3 2 1 0 IllegalStateException", BoundsOfUndo::undoAll);
            sameState("the ninth but last is not undone", after,
                ninth.then("8 undos", one -> Scene.times(8, one::undo)));
        }
    }

    private void everyModificationOfAFullNetwork() {
        sentence("Terms", MODIFICATIONS);
        Scene before = settled(Scene.full().then("undo of the tick", TramNetwork::undo));
        String[] names = {"sellTicket(7, 3, 1)", "board(0, 5)", "alight(7)", "whisper(5, 2)", "tick()", "a text"};
        Modification[] modify = {one -> one.sellTicket(7, 3, 1), one -> one.board(0, 5), one -> one.alight(7),
            one -> one.whisper(5, 2), TramNetwork::tick, BoundsOfUndo::executedInAFullNetwork};
        for (int index = 0; index < names.length; index++) {
            Modification modification = modify[index];
            Scene after = before.then("3 ticks undone, " + names[index], one -> {
                Scene.times(3, one::tick);
                Scene.times(3, one::undo);
                modification.on(one);
            });
            answers(after, "undo()", 0, TramNetwork::undo);
            sameState("undone", before, after.then("undone", TramNetwork::undo));
            Scene ninth = before.then("8 ticks undone", one -> {
                Scene.times(8, one::tick);
                Scene.times(8, one::undo);
            }).then(names[index] + ", 8 ticks", one -> {
                modification.on(one);
                Scene.times(8, one::tick);
            });
            answers(ninth, "nine undos", "7 6 5 4 3 2 1 0 IllegalStateException", BoundsOfUndo::undoAll);
            // After ten ticks all trams are where they were.
            Scene later = before.then("12 ticks, 2 undos", one -> {
                Scene.times(12, one::tick);
                Scene.times(2, one::undo);
            }).then(names[index], modification::on);
            answers(later, "nine undos", "6 5 4 3 2 1 0 IllegalStateException IllegalStateException",
                BoundsOfUndo::undoAll);
        }
    }

    private static int executedInAFullNetwork(TramNetwork network) {
        Scene.executing(network, "board 1 0;tick;tick;tick;tick;tick;alight 7;alight 2");
        return 8;
    }

    private static String undoAll(TramNetwork network) {
        StringBuilder left = new StringBuilder();
        for (int undone = 0; undone < 9; undone++) {
            left.append(undone > 0 ? " " : "").append(outcome(network, TramNetwork::undo));
        }
        return left.toString();
    }

    private void nothingElse() {
        sentence("Terms", MODIFICATIONS);
        String[] names = {"type('t')", "save()", "writeLine(0)", "writePassenger(0)", "isConsistent()",
            "arrivalBySimulation(0, 3)", "canBoard(2, 0)", "distance(0, 4)", "wisestPassenger(0)", "restore()"};
        Question[] questions = {one -> one.type('t'), TramNetwork::save, one -> one.writeLine(0),
            one -> one.writePassenger(0), TramNetwork::isConsistent, one -> one.arrivalBySimulation(0, 3),
            one -> one.canBoard(2, 0), one -> one.distance(0, 4), one -> one.wisestPassenger(0),
            TramNetwork::restore};
        for (int index = 0; index < names.length; index++) {
            Question question = questions[index];
            Scene none = settled(Scene.town()).then(names[index], one -> question.to(one));
            throwsOnly(none, "undo()", STATE, TramNetwork::undo);
            if (index < names.length - 1) {
                Scene one = settled(Scene.town()).then("tick, " + names[index], at -> {
                    at.tick();
                    question.to(at);
                });
                answers(one, "undo(), tickCount()", "0 1", at -> at.undo() + " " + at.tickCount());
            }
        }
        Scene undone = settled(Scene.town()).then("3 ticks, 2 undos", one -> {
            Scene.times(3, one::tick);
            Scene.times(2, one::undo);
        });
        answers(undone, "an undo is none: undo()", 0, TramNetwork::undo);
    }

    private void refusedCallsAreNone() {
        sentence("Terms", LAST_EIGHT);
        Scene eight = ticks(8).then("refused calls of all kinds", one -> {
            for (Question question : refusedOfNothing()) {
                outcome(one, question);
            }
            Scene.executingInVain(one, "tick;tick;stop 9");
            Scene.executingInVain(one, "tick;tick;");
        });
        answers(eight, "nine undos", "7 6 5 4 3 2 1 0 IllegalStateException", BoundsOfUndo::undoAll);
        answers(eight, "tickCount() after eight undos", 0, one -> {
            Scene.times(8, one::undo);
            return one.tickCount();
        });
    }

    private static Question[] refusedOfNothing() {
        return new Question[] {one -> one.addStop(4), one -> one.addLine(0, 1), one -> one.extendLine(0, 0),
            one -> one.addTram(0), one -> one.addPassenger(0), one -> one.sellTicket(0, 0, 1), one -> one.board(0, 0),
            one -> one.alight(0), one -> one.addSecret(0), one -> one.whisper(0, 0), TramNetwork::execute,
            TramNetwork::restore};
    }

    private void bufferIsNoPart() {
        sentence("Terms", NO_PART);
        Scene typed = ticks(1).then("save, 'ti' typed, tick, 'c' typed", one -> {
            one.save();
            Scene.typing(one, "ti");
            one.tick();
            one.type('c');
        });
        for (Scene scene : new Scene[] {typed, typed.then("undo", TramNetwork::undo),
            typed.then("save", TramNetwork::save), typed.then("restore", TramNetwork::restore)}) {
            answers(scene, "type('k')", 4, one -> one.type('k'));
            answers(scene.thenText("k"), "execute()", 1, TramNetwork::execute);
        }
        Scene emptied = ticks(1).thenText("tick").then("save, execute", one -> {
            one.save();
            one.execute();
        });
        answers(emptied.then("undo", TramNetwork::undo), "type('x')", 1, one -> one.type('x'));
        answers(emptied.then("restore", TramNetwork::restore), "type('x')", 1, one -> one.type('x'));
    }

    private void errorPositionIsNoPart() {
        sentence("Terms", NO_PART);
        Scene before = ticks(1).then("save, tick, a malformed text", one -> {
            one.save();
            one.tick();
            Scene.executingInVain(one, "tick;ti~");
        });
        Scene after = ticks(1).then("a malformed text, save, tick, another", one -> {
            Scene.executingInVain(one, "~");
            one.save();
            one.tick();
            Scene.executingInVain(one, "tick;ti~");
        });
        for (Scene scene : new Scene[] {before, after}) {
            answers(scene.then("undo", TramNetwork::undo), "errorPosition()", 7, TramNetwork::errorPosition);
            answers(scene.then("save", TramNetwork::save), "errorPosition()", 7, TramNetwork::errorPosition);
            answers(scene.then("restore", TramNetwork::restore), "errorPosition()", 7, TramNetwork::errorPosition);
            throwsOnly(scene.then("restore", TramNetwork::restore), "failedCommand()", ELEMENT,
                TramNetwork::failedCommand);
        }
    }

    private void failedCommandIsNoPart() {
        sentence("Terms", NO_PART);
        Scene before = ticks(1).then("save, tick, a failing text", one -> {
            one.save();
            one.tick();
            Scene.executingInVain(one, "tick;tick;stop 9");
        });
        Scene after = ticks(1).then("a failing text, save, tick, another", one -> {
            Scene.executingInVain(one, "stop 9");
            one.save();
            one.tick();
            Scene.executingInVain(one, "tick;tick;stop 9");
        });
        for (Scene scene : new Scene[] {before, after}) {
            answers(scene.then("undo", TramNetwork::undo), "failedCommand()", 2, TramNetwork::failedCommand);
            answers(scene.then("save", TramNetwork::save), "failedCommand()", 2, TramNetwork::failedCommand);
            answers(scene.then("restore", TramNetwork::restore), "failedCommand()", 2, TramNetwork::failedCommand);
            throwsOnly(scene.then("restore", TramNetwork::restore), "errorPosition()", ELEMENT,
                TramNetwork::errorPosition);
        }
    }

    private void lineOfTextIsNoPart() {
        sentence("Terms", NO_PART);
        Scene before = Scene.lines(1).then("save, a passenger written", one -> {
            one.save();
            one.addPassenger(9);
            one.writePassenger(0);
        });
        Scene after = Scene.lines(1).then("a line written, save, a passenger written", one -> {
            one.writeLine(0);
            one.save();
            one.addPassenger(9);
            one.writePassenger(0);
        });
        for (Scene scene : new Scene[] {before, after}) {
            answers(scene.then("undo", TramNetwork::undo), "the line of text", "0@9r0", Portrait::written);
            answers(scene.then("save", TramNetwork::save), "the line of text", "0@9r0", Portrait::written);
            answers(scene.then("restore", TramNetwork::restore), "the line of text", "0@9r0", Portrait::written);
        }
    }

    private void refusedModificationsChangeNothing() {
        sentence("Terms", UNCHANGED);
        Scene town = Scene.town();
        refuses(town, "addStop(4)", ARGUMENT, one -> one.addStop(4));
        refuses(town, "addLine(0, 6)", INDEX, one -> one.addLine(0, 6));
        refuses(town, "addLine(5, 5)", ARGUMENT, one -> one.addLine(5, 5));
        refuses(town, "extendLine(3, 5)", INDEX, one -> one.extendLine(3, 5));
        refuses(town, "extendLine(1, 4)", ARGUMENT, one -> one.extendLine(1, 4));
        refuses(town, "addTram(3)", INDEX, one -> one.addTram(3));
        refuses(town, "addPassenger(6)", INDEX, one -> one.addPassenger(6));
        refuses(town, "sellTicket(6, 0, 1)", INDEX, one -> one.sellTicket(6, 0, 1));
        refuses(town, "sellTicket(2, 2, 10)", ARGUMENT, one -> one.sellTicket(2, 2, 10));
        refuses(town, "sellTicket(5, 1, 3)", STATE, one -> one.sellTicket(5, 1, 3));
        refuses(town, "board(0, 4)", INDEX, one -> one.board(0, 4));
        refuses(town, "board(0, 1)", STATE, one -> one.board(0, 1));
        refuses(town, "board(2, 0)", ELEMENT, one -> one.board(2, 0));
        refuses(town, "board(3, 0)", UNSUPPORTED, one -> one.board(3, 0));
        refuses(town, "alight(6)", INDEX, one -> one.alight(6));
        refuses(town, "alight(5)", STATE, one -> one.alight(5));
        refuses(town, "addSecret(6)", INDEX, one -> one.addSecret(6));
        refuses(town, "whisper(3, 0)", INDEX, one -> one.whisper(3, 0));
        refuses(town, "whisper(1, 0)", STATE, one -> one.whisper(1, 0));
        refuses(town, "whisper(0, 1)", UNSUPPORTED, one -> one.whisper(0, 1));
        refuses(town, "type of 127", ARGUMENT, one -> one.type((char) 127));
        Scene full = Scene.full();
        refuses(full, "addStop(0)", STATE, one -> one.addStop(0));
        refuses(full, "addLine(0, 9)", STATE, one -> one.addLine(0, 9));
        refuses(full, "extendLine(0, 9)", STATE, one -> one.extendLine(0, 9));
        refuses(full, "addTram(0)", STATE, one -> one.addTram(0));
        refuses(full, "addPassenger(0)", STATE, one -> one.addPassenger(0));
        refuses(full, "addSecret(0)", STATE, one -> one.addSecret(0));
        refuses(full, "type('x')", STATE, one -> one.type('x'));
        refuses(ticks(3), "restore()", STATE, TramNetwork::restore);
        refuses(settled(Scene.town()), "undo()", STATE, TramNetwork::undo);
    }

    private void refusedQuestionsChangeNothing() {
        sentence("Terms", UNCHANGED);
        for (Scene scene : new Scene[] {Scene.town(), Scene.full()}) {
            refuses(scene, "zoneOf(10)", INDEX, one -> one.zoneOf(10));
            refuses(scene, "isTerminus(-1)", INDEX, one -> one.isTerminus(-1));
            refuses(scene, "lineLength(5)", INDEX, one -> one.lineLength(5));
            refuses(scene, "stopAt(5, 0)", INDEX, one -> one.stopAt(5, 0));
            refuses(scene, "stopAt(0, 6)", ELEMENT, one -> one.stopAt(0, 6));
            refuses(scene, "commonStops(0, 5)", INDEX, one -> one.commonStops(0, 5));
            refuses(scene, "lineOfTram(6)", INDEX, one -> one.lineOfTram(6));
            refuses(scene, "stopOfTram(6)", INDEX, one -> one.stopOfTram(6));
            refuses(scene, "isForward(6)", INDEX, one -> one.isForward(6));
            refuses(scene, "crowdOf(6)", INDEX, one -> one.crowdOf(6));
            refuses(scene, "arrivalOf(0, 10)", INDEX, one -> one.arrivalOf(0, 10));
            refuses(scene, "arrivalBySimulation(6, 0)", INDEX, one -> one.arrivalBySimulation(6, 0));
            refuses(scene, "stopOfPassenger(8)", INDEX, one -> one.stopOfPassenger(8));
            refuses(scene, "tramOfPassenger(8)", INDEX, one -> one.tramOfPassenger(8));
            refuses(scene, "ridesOf(8)", INDEX, one -> one.ridesOf(8));
            refuses(scene, "isValidIn(8, 0)", INDEX, one -> one.isValidIn(8, 0));
            refuses(scene, "isValidIn(0, 4)", ARGUMENT, one -> one.isValidIn(0, 4));
            refuses(scene, "canBoard(0, 6)", INDEX, one -> one.canBoard(0, 6));
            refuses(scene, "isTransfer(0, 5)", INDEX, one -> one.isTransfer(0, 5));
            refuses(scene, "carrierOf(6)", INDEX, one -> one.carrierOf(6));
            refuses(scene, "isTruth(6)", INDEX, one -> one.isTruth(6));
            refuses(scene, "knows(0, 6)", INDEX, one -> one.knows(0, 6));
            refuses(scene, "knowerCount(6)", INDEX, one -> one.knowerCount(6));
            refuses(scene, "wisestPassenger(8)", ELEMENT, one -> one.wisestPassenger(8));
            refuses(scene, "distance(0, 10)", INDEX, one -> one.distance(0, 10));
            refuses(scene, "distanceByRelaxation(10, 0)", INDEX, one -> one.distanceByRelaxation(10, 0));
            refuses(scene, "changes(0, 10)", INDEX, one -> one.changes(0, 10));
            refuses(scene, "changesByGrowth(10, 0)", INDEX, one -> one.changesByGrowth(10, 0));
            refuses(scene, "writeLine(5)", INDEX, one -> one.writeLine(5));
            refuses(scene, "writePassenger(8)", INDEX, one -> one.writePassenger(8));
            refuses(scene, "textAt(18)", INDEX, one -> one.textAt(18));
        }
        Scene town = Scene.town();
        refuses(town, "arrivalOf(0, 5)", ELEMENT, one -> one.arrivalOf(0, 5));
        refuses(town, "arrivalBySimulation(0, 5)", ELEMENT, one -> one.arrivalBySimulation(0, 5));
        refuses(town, "distance(0, 5)", ELEMENT, one -> one.distance(0, 5));
        refuses(town, "distanceByRelaxation(5, 0)", ELEMENT, one -> one.distanceByRelaxation(5, 0));
        refuses(town, "changes(0, 5)", ELEMENT, one -> one.changes(0, 5));
        refuses(town, "changesByGrowth(5, 0)", ELEMENT, one -> one.changesByGrowth(5, 0));
        refuses(ticks(3), "fullestTram()", ELEMENT, TramNetwork::fullestTram);
        refuses(ticks(3), "meanRides()", ARITHMETIC, TramNetwork::meanRides);
        refuses(ticks(3), "truthShare()", ARITHMETIC, TramNetwork::truthShare);
        refuses(ticks(3), "errorPosition()", ELEMENT, TramNetwork::errorPosition);
        refuses(ticks(3), "failedCommand()", ELEMENT, TramNetwork::failedCommand);
    }

    private void refusedTextEmptiesTheBuffer() {
        sentence("Terms", UNCHANGED);
        for (Scene scene : new Scene[] {settled(Scene.town()), settled(Scene.full()), ticks(9), Scene.nothing()}) {
            refusesText(scene, "tick;stop 9", STATE);
            refusesText(scene, "stop 9", STATE);
            refusesText(scene, "tick;tick;", ARGUMENT);
            refusesText(scene, "", ARGUMENT);
        }
        Scene later = Scene.town().then("a tick, its text is refused", one -> {
            one.tick();
            outcome(one, TramNetwork::execute);
        });
        answers(later, "type('x')", 1, one -> one.type('x'));
        answers(later, "undo()", 4, TramNetwork::undo);
    }

    private void addingExceptions() {
        sentence("Terms", FIRST);
        throwsOnly(Scene.stops(10), "addStop(4), full", ARGUMENT, one -> one.addStop(4));
        throwsOnly(Scene.stops(3), "addLine(3, 3)", INDEX, one -> one.addLine(3, 3));
        throwsOnly(Scene.lines(5), "addLine(10, 10), full", INDEX, one -> one.addLine(10, 10));
        throwsOnly(Scene.lines(5), "addLine(0, 10), full", INDEX, one -> one.addLine(0, 10));
        throwsOnly(Scene.lines(5), "addLine(-1, 0), full", INDEX, one -> one.addLine(-1, 0));
        throwsOnly(Scene.lines(5), "addLine(9, 9), full", ARGUMENT, one -> one.addLine(9, 9));
        throwsOnly(Scene.lineOf(6), "extendLine(0, 10), full", INDEX, one -> one.extendLine(0, 10));
        throwsOnly(Scene.lineOf(6), "extendLine(1, 0)", INDEX, one -> one.extendLine(1, 0));
        throwsOnly(Scene.lineOf(6), "extendLine(0, 5), full", ARGUMENT, one -> one.extendLine(0, 5));
        throwsOnly(Scene.lineOf(6), "extendLine(0, 0), full", ARGUMENT, one -> one.extendLine(0, 0));
        throwsOnly(Scene.trams(6), "addTram(2), full", INDEX, one -> one.addTram(2));
        throwsOnly(Scene.passengers(8), "addPassenger(10), full", INDEX, one -> one.addPassenger(10));
        throwsOnly(Scene.secrets(6), "addSecret(3), full", INDEX, one -> one.addSecret(3));
        throwsOnly(Scene.nothing(), "addLine(0, 0) without stops", INDEX, one -> one.addLine(0, 0));
    }

    private void passengerExceptions() {
        sentence("Terms", FIRST);
        Scene full = Scene.full();
        throwsOnly(full, "sellTicket(8, 4, 10)", INDEX, one -> one.sellTicket(8, 4, 10));
        throwsOnly(full, "sellTicket(0, 4, 9) over 20 rides", ARGUMENT, one -> one.sellTicket(0, 4, 9));
        throwsOnly(full, "sellTicket(0, -1, 1) over 20 rides", ARGUMENT, one -> one.sellTicket(0, -1, 1));
        throwsOnly(full, "sellTicket(0, 0, 10) over 20 rides", ARGUMENT, one -> one.sellTicket(0, 0, 10));
        throwsOnly(full, "board(7, 6) on a tram", INDEX, one -> one.board(7, 6));
        throwsOnly(full, "board(7, 1) on a tram elsewhere", STATE, one -> one.board(7, 1));
        throwsOnly(full, "board(0, 6)", INDEX, one -> one.board(0, 6));
        Scene away = Scene.passengers(1).then("a tick", TramNetwork::tick);
        throwsOnly(away, "board(0, 0) elsewhere, without a ticket", ELEMENT, one -> one.board(0, 0));
        Scene on = Scene.secrets(1).then("the last ride, on tram 0", one -> {
            Scene.times(9, () -> {
                one.board(1, 0);
                if (one.ridesOf(1) > 0) {
                    one.alight(1);
                }
            });
        });
        throwsOnly(on, "board(1, 1) on a tram, without rides", STATE, one -> one.board(1, 1));
        Scene truth = Scene.secrets(1).then("board(1, 0), alight(1)", one -> {
            one.board(1, 0);
            one.alight(1);
        });
        throwsOnly(truth, "whisper(0, 3) of a truth", INDEX, one -> one.whisper(0, 3));
        throwsOnly(truth, "whisper(0, 1) of a truth, apart", STATE, one -> one.whisper(0, 1));
        throwsOnly(Scene.secrets(1), "whisper(1, 1), apart", INDEX, one -> one.whisper(1, 1));
        throwsOnly(Scene.secrets(1), "whisper(0, 3), apart", INDEX, one -> one.whisper(0, 3));
    }

    private void questionExceptions() {
        sentence("Terms", FIRST);
        throwsOnly(Scene.lines(1), "stopAt(1, 2)", INDEX, one -> one.stopAt(1, 2));
        throwsOnly(Scene.lines(1), "stopAt(-1, -1)", INDEX, one -> one.stopAt(-1, -1));
        throwsOnly(Scene.trams(1), "arrivalOf(1, 9)", INDEX, one -> one.arrivalOf(1, 9));
        throwsOnly(Scene.trams(1), "arrivalOf(0, 10)", INDEX, one -> one.arrivalOf(0, 10));
        throwsOnly(Scene.trams(1), "arrivalBySimulation(1, 9)", INDEX, one -> one.arrivalBySimulation(1, 9));
        throwsOnly(Scene.trams(1), "arrivalBySimulation(0, 10)", INDEX, one -> one.arrivalBySimulation(0, 10));
        throwsOnly(Scene.passengers(1), "isValidIn(1, 4)", INDEX, one -> one.isValidIn(1, 4));
        throwsOnly(Scene.lines(1), "distance(9, 10)", INDEX, one -> one.distance(9, 10));
        throwsOnly(Scene.lines(1), "distanceByRelaxation(9, 10)", INDEX, one -> one.distanceByRelaxation(9, 10));
        throwsOnly(Scene.lines(1), "changes(9, 10)", INDEX, one -> one.changes(9, 10));
        throwsOnly(Scene.lines(1), "changesByGrowth(9, 10)", INDEX, one -> one.changesByGrowth(9, 10));
    }

    private void textExceptions() {
        sentence("Terms", FIRST);
        throwsOnly(Scene.full(), "type of 127, full", ARGUMENT, one -> one.type((char) 127));
        throwsOnly(Scene.full(), "type of 31, full", ARGUMENT, one -> one.type((char) 31));
        for (String text : new String[] {"stop 9;x", "stop 9;", "stop 9;stop 99", "tick;stop 9;tic"}) {
            throwsOnly(Scene.nothing().thenText(text), "execute() of a text that is malformed and would fail", ARGUMENT,
                TramNetwork::execute);
        }
    }

    private void lastModification() {
        sentence("P56", "Undoes the last modification that can be undone.");
        Scene two = Scene.stops(2).then("undo", TramNetwork::undo);
        answers(two, "stopCount()", 1, TramNetwork::stopCount);
        answers(two, "zoneOf(0)", 0, one -> one.zoneOf(0));
        answers(two.then("undo", TramNetwork::undo), "stopCount()", 0, TramNetwork::stopCount);
        Scene mixed = Scene.passengers(1).then("sellTicket, tick, undo", one -> {
            one.sellTicket(0, 3, 5);
            one.tick();
            one.undo();
        });
        answers(mixed, "tickCount()", 0, TramNetwork::tickCount);
        answers(mixed, "ridesOf(0)", 5, one -> one.ridesOf(0));
        Scene text = Scene.passengers(1).then("a text of several commands, undo", one -> {
            Scene.executing(one, "ticket 0 0 5;tick;secret 0;tick");
            one.undo();
        });
        sameState("the whole text is one modification", Scene.passengers(1), text);
    }

    private void leftToUndo() {
        sentence("P56", "Returns the number of modifications that can still be undone.");
        for (int count = 1; count <= 12; count++) {
            answers(ticks(count), "undo()", Math.min(count, 8) - 1, TramNetwork::undo);
        }
        answers(ticks(8), "nine undos", "7 6 5 4 3 2 1 0 IllegalStateException", BoundsOfUndo::undoAll);
        answers(ticks(9), "nine undos", "7 6 5 4 3 2 1 0 IllegalStateException", BoundsOfUndo::undoAll);
        answers(ticks(7), "nine undos", "6 5 4 3 2 1 0 IllegalStateException IllegalStateException",
            BoundsOfUndo::undoAll);
    }

    private void nothingToUndo() {
        sentence("P56", "Throws `IllegalStateException` if there is none");
        refuses(Scene.nothing(), "undo()", STATE, TramNetwork::undo);
        for (int count = 1; count <= 10; count++) {
            int kept = Math.min(count, 8);
            Scene all = ticks(count).then(kept + " undos", one -> Scene.times(kept, one::undo));
            refuses(all, "undo()", STATE, TramNetwork::undo);
            Scene butOne = ticks(count).then((kept - 1) + " undos", one -> Scene.times(kept - 1, one::undo));
            answers(butOne, "undo()", 0, TramNetwork::undo);
        }
        refuses(Scene.nothing().then("save", TramNetwork::save), "undo()", STATE, TramNetwork::undo);
        refuses(settled(Scene.full()), "undo()", STATE, TramNetwork::undo);
    }

    private void replacedSnapshot() {
        sentence("P57", "Saves the state as a snapshot, which replaces an earlier snapshot.");
        Scene second = Scene.nothing().then("save, town-like calls, save, more calls, restore", one -> {
            one.save();
            Scene.executing(one, "stop 0;stop 1;line 0 1;tram 0;rider 0;ticket 0 0 9;board 0 0");
            Scene.executing(one, "tick;secret 0");
            one.save();
            Scene.executing(one, "alight 0;stop 3;rider 0;tick");
            one.restore();
        });
        Scene due = Scene.nothing().then("the calls before the second save", one -> {
            Scene.executing(one, "stop 0;stop 1;line 0 1;tram 0;rider 0;ticket 0 0 9;board 0 0");
            Scene.executing(one, "tick;secret 0");
        });
        sameState("the second snapshot", due, second);
        Scene smaller = Scene.full().then("a smaller snapshot", one -> {
            one.save();
            Scene.times(3, one::undo);
            one.save();
            one.tick();
            one.restore();
        });
        sameState("a smaller snapshot behind a greater one",
            Scene.full().then("3 undos", one -> Scene.times(3, one::undo)), smaller);
        for (Scene scene : new Scene[] {Scene.nothing(), Scene.town(), Scene.full()}) {
            sameState("a save changes no state", scene, scene.then("save", TramNetwork::save));
        }
    }

    private void savedPassengers() {
        sentence("P57", "Returns the number of passengers.");
        for (int count = 0; count <= 8; count++) {
            answers(Scene.passengers(count), "save()", count, TramNetwork::save);
        }
        answers(Scene.nothing(), "save()", 0, TramNetwork::save);
        answers(Scene.full(), "save() with some on trams", 8, TramNetwork::save);
    }

    private void keptSnapshot() {
        sentence("P58", RESTORES);
        for (Scene scene : new Scene[] {Scene.nothing(), Scene.lines(5), Scene.town()}) {
            Scene saved = scene.then("save", TramNetwork::save);
            Scene once = saved.then("restore", TramNetwork::restore);
            Scene twice = once.then("4 ticks, a stop, restore", one -> {
                Scene.times(4, one::tick);
                outcome(one, at -> at.addStop(3));
                one.restore();
            });
            Scene thrice = twice.then("9 ticks, 8 undos, restore", one -> {
                Scene.times(9, one::tick);
                Scene.times(8, one::undo);
                one.restore();
            });
            sameState("restored at once", scene, once);
            sameState("restored twice", scene, twice);
            sameState("restored thrice", scene, thrice);
        }
    }

    private void everythingIsRestored() {
        sentence("P58", RESTORES);
        Scene town = settled(Scene.town());
        for (int index = 0; index < MODIFY.length; index++) {
            Modification modification = MODIFY[index];
            Scene after = town.then(NAMES[index] + ", restore", one -> {
                modification.on(one);
                one.restore();
            });
            sameState("restored", town, after);
            throwsOnly(after, "undo()", STATE, TramNetwork::undo);
        }
        Scene filled = Scene.nothing().then("save, much of everything, restore", one -> {
            one.save();
            Scene.executing(one, "stop 0;stop 1;line 0 1;tram 0;rider 0;ticket 0 0 9;board 0 0");
            Scene.executing(one, "tick;secret 0;alight 0");
            one.restore();
        });
        sameState("restored to nothing", Scene.nothing(), filled);
    }

    /** After the snapshot, other stops, lines, trams, passengers and secrets have taken the same numbers. */
    private void overwrittenNumbersAreRestored() {
        sentence("P58", RESTORES);
        Scene first = Scene.nothing().then("a text", one ->
            Scene.executing(one, "stop 0;stop 1;stop 2;stop 3;line 0 1;line 2 3;tram 0")).then("calls", one -> {
                Scene.executing(one, "extend 0 2;extend 0 3;tram 1;tick;rider 0;rider 2;rider 3");
                Scene.executing(one, "ticket 0 0 9;ticket 1 2 8;ticket 2 3 1;secret 1;tick");
                Scene.executing(one, "board 1 1;alight 1;secret 0;secret 2");
            });
        Scene second = first.then("saved, all undone, other calls, restored", one -> {
            one.save();
            Scene.times(4, one::undo);
            otherNetwork(one);
            one.restore();
        });
        sameState("restored", first, second);
    }

    private static void otherNetwork(TramNetwork network) {
        for (int stop = 0; stop < 4; stop++) {
            network.addStop(3 - stop);
        }
        network.addLine(3, 2);
        network.addLine(1, 0);
        network.addTram(1);
        network.extendLine(1, 2);
        network.extendLine(0, 0);
        network.addTram(0);
        network.addPassenger(3);
        network.addPassenger(1);
        network.addPassenger(1);
        network.sellTicket(1, 1, 3);
        network.sellTicket(2, 2, 2);
        network.sellTicket(0, 3, 1);
        network.board(2, 0);
        network.addSecret(2);
        network.tick();
        network.tick();
        network.addSecret(0);
        network.addSecret(2);
        network.alight(2);
    }

    private void lastAlightingIsRestored() {
        sentence("P58", RESTORES);
        Scene alighted = Scene.stops(2).then("three lines, the passenger left line 0", one -> {
            Scene.executing(one, "line 0 1;line 0 1;line 0 1;tram 0;tram 1;tram 2;rider 0");
            Scene.executing(one, "ticket 0 0 9;tick;tick;board 0 0;alight 0");
        });
        Scene other = alighted.then("save, line 1 is left", one -> {
            one.save();
            one.board(0, 1);
            one.alight(0);
        });
        Scene later = alighted.then("save, line 0 is left later", one -> {
            one.save();
            one.tick();
            one.tick();
            one.board(0, 0);
            one.alight(0);
        });
        Scene undone = later.then("4 undos", one -> Scene.times(4, one::undo));
        for (Scene scene : new Scene[] {other.then("restore", TramNetwork::restore),
            later.then("restore", TramNetwork::restore), undone, other.then("2 undos", one -> {
                one.undo();
                one.undo();
            })}) {
            sameState("the last alighting before", alighted, scene);
            answers(scene, "isTransfer(0, 0)", false, one -> one.isTransfer(0, 0));
            answers(scene, "isTransfer(0, 1)", true, one -> one.isTransfer(0, 1));
            sameState("two ticks later", alighted.then("2 ticks", one -> Scene.times(2, one::tick)),
                scene.then("2 ticks", one -> Scene.times(2, one::tick)));
        }
        refusesText(alighted, "board 0 1;alight 0;stop 9", STATE);
        refusesText(alighted, "tick;tick;board 0 0;alight 0;stop 9", STATE);
    }

    private void nothingToUndoAfterARestore() {
        sentence("P58", "Afterwards nothing can be undone.");
        for (int count = 0; count <= 10; count++) {
            int passed = count;
            Scene scene = Scene.nothing().then("save, " + count + " ticks, restore", one -> {
                one.save();
                Scene.times(passed, one::tick);
                one.restore();
            });
            throwsOnly(scene, "undo()", STATE, TramNetwork::undo);
            answers(scene.then("tick", TramNetwork::tick), "undo()", 0, TramNetwork::undo);
            Scene nine = scene.then("9 ticks", one -> Scene.times(9, one::tick));
            answers(nine, "nine undos", "7 6 5 4 3 2 1 0 IllegalStateException", BoundsOfUndo::undoAll);
        }
        Scene late = ticks(3).then("save, restore", one -> {
            one.save();
            one.restore();
        });
        refuses(late, "undo() of what was done before the save", STATE, TramNetwork::undo);
    }

    private void restoredPassengers() {
        sentence("P58", "Returns the number of passengers.");
        for (int count = 0; count <= 8; count++) {
            Scene saved = Scene.passengers(count).then("save", TramNetwork::save);
            answers(saved, "restore()", count, TramNetwork::restore);
            answers(saved.then("undo of the last passenger", TramNetwork::undo), "restore()", count,
                TramNetwork::restore);
            if (count < 8) {
                answers(saved.then("another passenger", one -> one.addPassenger(0)), "restore()", count,
                    TramNetwork::restore);
            }
        }
    }

    private void noSnapshot() {
        sentence("P58", "Throws `IllegalStateException` if there is no snapshot");
        refuses(Scene.nothing(), "restore()", STATE, TramNetwork::restore);
        refuses(Scene.secrets(6), "restore()", STATE, TramNetwork::restore);
        refuses(ticks(9), "restore()", STATE, TramNetwork::restore);
        answers(Scene.nothing().then("save of an empty network", TramNetwork::save), "restore()", 0,
            TramNetwork::restore);
    }
}

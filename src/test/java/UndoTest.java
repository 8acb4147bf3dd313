/** Promises 56 to 58. */
public final class UndoTest {
    private static final Class<IllegalStateException> STATE = IllegalStateException.class;

    private static final Check CHECK = new Check();

    public static void main(String[] args) {
        everyModification();
        everyModificationCounts();
        lastAlightings();
        overwritten();
        lastEight();
        onlyModifications();
        afterAnUndo();
        buffer();
        snapshots();
        CHECK.finish();
    }

    private static void typing(TramNetwork network, String text) {
        for (int index = 0; index < text.length(); index++) {
            network.type(text.charAt(index));
        }
    }

    private static void everyModification() {
        TramNetwork network = new TramNetwork();
        network.addStop(1);
        network.addStop(2);
        network.addLine(0, 1);
        network.undo();
        CHECK.same("P56 addLine", 0, network.lineCount());
        CHECK.same("P56 what is left", 1, network.undo());
        CHECK.same("P56 addStop", 1, network.stopCount());
        network.addStop(3);
        network.addStop(3);
        network.addLine(0, 1);
        network.extendLine(0, 2);
        network.undo();
        CHECK.same("P56 extendLine", 2, network.lineLength(0));
        CHECK.yes("P56 extendLine", network.isTerminus(1));
        network.addTram(0);
        network.undo();
        CHECK.same("P56 addTram", 0, network.tramCount());
        network.addTram(0);
        network.tick();
        network.undo();
        CHECK.same("P56 tick", 0, network.tickCount());
        CHECK.same("P56 tick", 0, network.stopOfTram(0));
        CHECK.yes("P56 tick", network.isForward(0));
        network.addPassenger(0);
        network.undo();
        CHECK.same("P56 addPassenger", 0, network.passengerCount());
        undoOfPassengers(network);
        undoOfText(network);
    }

    private static void undoOfPassengers(TramNetwork network) {
        network.addPassenger(0);
        network.addPassenger(0);
        network.sellTicket(0, 1, 5);
        network.sellTicket(1, 1, 5);
        network.sellTicket(0, 2, 5);
        network.undo();
        CHECK.same("P56 sellTicket", 5, network.ridesOf(0));
        CHECK.no("P56 sellTicket", network.isValidIn(0, 2));
        network.board(0, 0);
        network.undo();
        CHECK.same("P56 board", 5, network.ridesOf(0));
        CHECK.same("P56 board", 0, network.stopOfPassenger(0));
        CHECK.same("P56 board", -1, network.tramOfPassenger(0));
        network.board(0, 0);
        network.addSecret(0);
        network.undo();
        CHECK.same("P56 addSecret", 0, network.secretCount());
        CHECK.same("P56 addSecret", 0, network.wisestPassenger(0));
        network.addSecret(0);
        network.board(1, 0);
        network.whisper(0, 1);
        network.undo();
        CHECK.same("P56 whisper", 0, network.carrierOf(0));
        CHECK.same("P56 whisper", 1, network.knowerCount(0));
        network.addLine(2, 1);
        network.alight(0);
        CHECK.yes("P56 before the undo", network.isTransfer(0, 1));
        network.undo();
        CHECK.same("P56 alight", 0, network.tramOfPassenger(0));
        CHECK.same("P56 alight", -1, network.stopOfPassenger(0));
        CHECK.no("P56 alight", network.isTruth(0));
        CHECK.same("P56 alight", 0, network.carrierOf(0));
    }

    private static void undoOfText(TramNetwork network) {
        typing(network, "stop 0;tick;alight 0");
        network.execute();
        network.undo();
        CHECK.same("P56 execute", 3, network.stopCount());
        CHECK.same("P56 execute", 0, network.tickCount());
        CHECK.same("P56 execute", 0, network.tramOfPassenger(0));
    }

    /** What is left after each undo tells that each call was counted as a modification. */
    private static void everyModificationCounts() {
        TramNetwork network = new TramNetwork();
        network.addStop(0);
        network.addStop(1);
        network.addLine(0, 1);
        network.addTram(0);
        network.addPassenger(0);
        network.addPassenger(0);
        network.save();
        network.restore();
        network.sellTicket(0, 0, 3);
        CHECK.same("P56 sellTicket counts", 0, network.undo());
        network.sellTicket(0, 0, 3);
        network.sellTicket(1, 0, 3);
        network.board(0, 0);
        network.board(1, 0);
        network.addSecret(0);
        network.save();
        network.restore();
        network.whisper(0, 1);
        CHECK.same("P56 whisper counts", 0, network.undo());
        CHECK.same("P56 whisper", 0, network.carrierOf(0));
        network.whisper(0, 1);
        network.alight(1);
        network.addSecret(0);
        network.alight(0);
        network.board(0, 0);
        network.tick();
        typing(network, "tick;tick");
        network.execute();
        for (int left = 6; left >= 0; left--) {
            CHECK.same("P56 undo", left, network.undo());
        }
        CHECK.refused("P56 undo", STATE, network::undo);
        CHECK.same("P56 whisper", 0, network.carrierOf(0));
        CHECK.same("P56 whisper", 1, network.knowerCount(0));
    }

    private static void lastAlightings() {
        TramNetwork network = new TramNetwork();
        network.addStop(0);
        network.addStop(0);
        network.addLine(0, 1);
        network.addLine(0, 1);
        network.addTram(0);
        network.addTram(1);
        network.addPassenger(0);
        network.sellTicket(0, 0, 9);
        network.board(0, 0);
        network.alight(0);
        network.board(0, 1);
        network.alight(0);
        CHECK.no("P56 before the undo", network.isTransfer(0, 1));
        network.undo();
        network.undo();
        CHECK.yes("P56 the line left before", network.isTransfer(0, 1));
        CHECK.no("P56 the line left before", network.isTransfer(0, 0));
        network.tick();
        network.tick();
        CHECK.no("P56 too late", network.isTransfer(0, 1));
        network.board(0, 0);
        network.alight(0);
        CHECK.yes("P56 not too late", network.isTransfer(0, 1));
        network.undo();
        network.undo();
        CHECK.no("P56 the tick of the alighting before", network.isTransfer(0, 1));
    }

    /** Other stops, lines and trams take the numbers of those that are restored. */
    private static void overwritten() {
        TramNetwork network = new TramNetwork();
        network.addStop(0);
        network.addStop(1);
        network.addStop(2);
        network.addLine(0, 1);
        network.extendLine(0, 2);
        network.addLine(2, 1);
        network.addTram(0);
        network.tick();
        network.save();
        for (int count = 0; count < 8; count++) {
            network.undo();
        }
        CHECK.same("P56 all undone", 0, network.stopCount());
        for (int stop = 0; stop < 4; stop++) {
            network.addStop(3 - stop);
        }
        network.addLine(3, 2);
        network.addLine(1, 0);
        network.extendLine(1, 3);
        network.addTram(1);
        CHECK.same("P58 restore", 0, network.restore());
        CHECK.same("P58 stopCount", 3, network.stopCount());
        for (int stop = 0; stop < 3; stop++) {
            CHECK.same("P58 zoneOf", stop, network.zoneOf(stop));
            CHECK.same("P58 stopAt", stop, network.stopAt(0, stop));
        }
        CHECK.same("P58 lineLength", 3, network.lineLength(0));
        CHECK.same("P58 lineLength", 2, network.lineLength(1));
        CHECK.same("P58 stopAt", 2, network.stopAt(1, 0));
        CHECK.same("P58 stopAt", 1, network.stopAt(1, 1));
        CHECK.same("P58 lineOfTram", 0, network.lineOfTram(0));
        CHECK.same("P58 stopOfTram", 1, network.stopOfTram(0));
        CHECK.yes("P58 isForward", network.isForward(0));
        CHECK.same("P58 commonStops", 2, network.commonStops(0, 1));
    }

    private static void lastEight() {
        TramNetwork network = new TramNetwork();
        CHECK.refused("P56 nothing done", STATE, network::undo);
        for (int count = 0; count < 10; count++) {
            network.addStop(count % 4);
        }
        for (int count = 0; count < 3; count++) {
            network.tick();
        }
        for (int left = 7; left >= 0; left--) {
            CHECK.same("P56 undo", left, network.undo());
            CHECK.same("P56 tickCount", Math.max(0, left - 5), network.tickCount());
            CHECK.same("P56 stopCount", Math.min(10, left + 5), network.stopCount());
        }
        CHECK.refused("P56 more than eight", STATE, network::undo);
        CHECK.same("P56 stopCount", 5, network.stopCount());
        CHECK.same("P56 zoneOf", 0, network.zoneOf(4));
    }

    private static void onlyModifications() {
        TramNetwork network = new TramNetwork();
        network.addStop(0);
        try {
            network.addStop(4);
            CHECK.complain("addStop(4) throws nothing");
        } catch (IllegalArgumentException e) {
            CHECK.same("P56 stopCount", 1, network.stopCount());
        }
        network.save();
        network.addPassenger(0);
        network.writePassenger(0);
        network.isConsistent();
        network.canBoard(0, network.addTram(network.addLine(0, network.addStop(1))));
        typing(network, "tick;stop 4");
        CHECK.refused("P56 a failing text", STATE, network::execute);
        CHECK.refused("P56 a malformed text", IllegalArgumentException.class, network::execute);
        for (int left = 4; left >= 0; left--) {
            CHECK.same("P56 undo", left, network.undo());
        }
        CHECK.refused("P56 undo", STATE, network::undo);
        CHECK.same("P56 stopCount", 0, network.stopCount());
    }

    private static void afterAnUndo() {
        TramNetwork network = new TramNetwork();
        network.addStop(0);
        network.addStop(1);
        network.undo();
        CHECK.same("P56 a new stop", 1, network.addStop(3));
        CHECK.same("P56 the new zone", 3, network.zoneOf(1));
        CHECK.same("P56 undo", 1, network.undo());
        CHECK.same("P56 stopCount", 1, network.stopCount());
        CHECK.same("P56 undo", 0, network.undo());
        CHECK.refused("P56 undo", STATE, network::undo);
        for (int count = 0; count < 9; count++) {
            network.tick();
            network.tick();
            network.undo();
        }
        CHECK.same("P56 tickCount", 9, network.tickCount());
        CHECK.same("P56 seven were left", 6, network.undo());
    }

    private static void buffer() {
        TramNetwork network = new TramNetwork();
        network.addStop(0);
        network.save();
        typing(network, "sto");
        network.undo();
        CHECK.same("P56 the buffer stays", 4, network.type('p'));
        network.restore();
        CHECK.same("P58 the buffer stays", 5, network.type(' '));
        network.save();
        CHECK.same("P57 the buffer stays", 6, network.type('3'));
        CHECK.same("P53 execute", 1, network.execute());
        CHECK.same("P53 zoneOf", 3, network.zoneOf(1));
        network.undo();
        CHECK.same("P56 the buffer is empty", 1, network.type('x'));
    }

    private static void snapshots() {
        TramNetwork network = new TramNetwork();
        CHECK.refused("P58 no snapshot", STATE, network::restore);
        CHECK.same("P57 save", 0, network.save());
        typing(network, "stop 0;stop 1;line 0 1;tram 0;rider 0;rider 0;ticket 0 0 9");
        network.execute();
        typing(network, "board 0 0;tick;secret 0");
        network.execute();
        CHECK.same("P58 restore", 0, network.restore());
        CHECK.same("P58 stopCount", 0, network.stopCount());
        CHECK.refused("P58 nothing to undo", STATE, network::undo);
        typing(network, "stop 0;stop 1;line 0 1;tram 0;rider 0;rider 0;ticket 0 0 9");
        network.execute();
        typing(network, "board 0 0;tick;secret 0");
        network.execute();
        CHECK.same("P57 save", 2, network.save());
        CHECK.same("P57 a save cannot be undone", 1, network.undo());
        CHECK.same("P57 tickCount", 0, network.tickCount());
        network.addStop(3);
        CHECK.same("P58 restore", 2, network.restore());
        CHECK.same("P58 stopCount", 2, network.stopCount());
        CHECK.same("P58 tickCount", 1, network.tickCount());
        CHECK.same("P58 stopOfTram", 1, network.stopOfTram(0));
        CHECK.no("P58 isForward", network.isForward(0));
        CHECK.same("P58 tramOfPassenger", 0, network.tramOfPassenger(0));
        CHECK.same("P58 ridesOf", 8, network.ridesOf(0));
        CHECK.same("P58 secretCount", 1, network.secretCount());
        CHECK.refused("P58 nothing to undo", STATE, network::undo);
        network.alight(0);
        CHECK.yes("P58 isTruth", network.isTruth(0));
        CHECK.same("P58 the snapshot is kept", 2, network.restore());
        CHECK.no("P58 isTruth", network.isTruth(0));
        CHECK.same("P58 tramOfPassenger", 0, network.tramOfPassenger(0));
        network.tick();
        CHECK.same("P56 undo after a restore", 0, network.undo());
        CHECK.same("P56 tickCount", 1, network.tickCount());
    }
}

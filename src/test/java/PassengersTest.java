import java.util.NoSuchElementException;

/** Promises 23 to 33. */
public final class PassengersTest {
    private static final Class<IndexOutOfBoundsException> INDEX = IndexOutOfBoundsException.class;
    private static final Class<IllegalArgumentException> ARGUMENT = IllegalArgumentException.class;
    private static final Class<IllegalStateException> STATE = IllegalStateException.class;
    private static final Class<NoSuchElementException> ELEMENT = NoSuchElementException.class;
    private static final Class<UnsupportedOperationException> UNSUPPORTED = UnsupportedOperationException.class;

    private static final Check CHECK = new Check();

    public static void main(String[] args) {
        addPassenger();
        sellTicket();
        boarding();
        refusedBoarding();
        alighting();
        transfers();
        noTransferToTheSameLine();
        transfersReplaceOneAnother();
        missingPassengers();
        CHECK.finish();
    }

    /** Line 0 is 0-1-2, line 1 is 2-1-3, tram 0 and 2 on line 0, tram 1 on line 1; stop s is in zone s. */
    private static TramNetwork crossing() {
        TramNetwork network = new TramNetwork();
        for (int stop = 0; stop < 4; stop++) {
            network.addStop(stop);
        }
        network.addLine(0, 1);
        network.extendLine(0, 2);
        network.addLine(2, 1);
        network.extendLine(1, 3);
        network.addTram(0);
        network.addTram(1);
        network.addTram(0);
        return network;
    }

    private static void addPassenger() {
        TramNetwork network = crossing();
        CHECK.refused("P23 addPassenger(4)", INDEX, () -> network.addPassenger(4));
        CHECK.refused("P23 addPassenger(-1)", INDEX, () -> network.addPassenger(-1));
        for (int passenger = 0; passenger < 8; passenger++) {
            CHECK.same("P27 passengerCount", passenger, network.passengerCount());
            CHECK.same("P23 addPassenger", passenger, network.addPassenger(passenger % 4));
            CHECK.same("P28 stopOfPassenger", passenger % 4, network.stopOfPassenger(passenger));
            CHECK.same("P29 tramOfPassenger", -1, network.tramOfPassenger(passenger));
            CHECK.same("P30 ridesOf", 0, network.ridesOf(passenger));
            for (int zone = 0; zone < 4; zone++) {
                CHECK.no("P31 isValidIn", network.isValidIn(passenger, zone));
            }
        }
        CHECK.refused("P23 a ninth passenger", STATE, () -> network.addPassenger(0));
        CHECK.refused("P23 the missing stop comes first", INDEX, () -> network.addPassenger(4));
        CHECK.same("P27 passengerCount", 8, network.passengerCount());
    }

    private static void sellTicket() {
        TramNetwork network = crossing();
        network.addPassenger(0);
        network.addPassenger(0);
        CHECK.refused("P24 no such passenger", INDEX, () -> network.sellTicket(2, 0, 1));
        CHECK.refused("P24 no such passenger", INDEX, () -> network.sellTicket(-1, 4, 0));
        CHECK.refused("P24 zone -1", ARGUMENT, () -> network.sellTicket(0, -1, 1));
        CHECK.refused("P24 zone 4", ARGUMENT, () -> network.sellTicket(0, 4, 1));
        CHECK.refused("P24 0 rides", ARGUMENT, () -> network.sellTicket(0, 0, 0));
        CHECK.refused("P24 10 rides", ARGUMENT, () -> network.sellTicket(0, 0, 10));
        CHECK.refused("P24 many rides", ARGUMENT, () -> network.sellTicket(0, 0, Integer.MAX_VALUE));
        CHECK.refused("P24 no rides", ARGUMENT, () -> network.sellTicket(0, 0, Integer.MIN_VALUE));
        CHECK.no("P24 nothing sold", network.isValidIn(0, 0));
        CHECK.same("P24 sellTicket", 9, network.sellTicket(0, 1, 9));
        CHECK.same("P24 sellTicket", 10, network.sellTicket(0, 3, 1));
        CHECK.same("P24 the same zone", 18, network.sellTicket(0, 3, 8));
        CHECK.refused("P24 more than 20 rides", STATE, () -> network.sellTicket(0, 0, 3));
        CHECK.refused("P24 the range comes first", ARGUMENT, () -> network.sellTicket(0, 4, 9));
        CHECK.no("P31 zone 0", network.isValidIn(0, 0));
        CHECK.yes("P31 zone 1", network.isValidIn(0, 1));
        CHECK.no("P31 zone 2", network.isValidIn(0, 2));
        CHECK.yes("P31 zone 3", network.isValidIn(0, 3));
        CHECK.same("P24 20 rides", 20, network.sellTicket(0, 3, 2));
        CHECK.refused("P24 21 rides", STATE, () -> network.sellTicket(0, 3, 1));
        CHECK.same("P30 ridesOf(0)", 20, network.ridesOf(0));
        CHECK.same("P30 ridesOf(1)", 0, network.ridesOf(1));
        CHECK.no("P31 the other passenger", network.isValidIn(1, 1));
    }

    private static void boarding() {
        TramNetwork network = crossing();
        network.addPassenger(0);
        network.addPassenger(0);
        network.sellTicket(0, 0, 2);
        CHECK.yes("P32 canBoard", network.canBoard(0, 0));
        CHECK.yes("P25 a ride is used", network.board(0, 0));
        CHECK.same("P25 the rides", 1, network.ridesOf(0));
        CHECK.same("P28 stopOfPassenger", -1, network.stopOfPassenger(0));
        CHECK.same("P29 tramOfPassenger", 0, network.tramOfPassenger(0));
        CHECK.same("P28 the other passenger", 0, network.stopOfPassenger(1));
        network.tick();
        CHECK.same("P28 still on the tram", -1, network.stopOfPassenger(0));
        CHECK.same("P26 alight", 1, network.alight(0));
        CHECK.same("P28 stopOfPassenger", 1, network.stopOfPassenger(0));
        CHECK.same("P29 tramOfPassenger", -1, network.tramOfPassenger(0));
    }

    private static void refusedBoarding() {
        TramNetwork network = crossing();
        network.addPassenger(0);
        CHECK.refused("P25 no such passenger", INDEX, () -> network.board(1, 0));
        CHECK.refused("P25 no such passenger", INDEX, () -> network.board(-1, 0));
        CHECK.refused("P25 no such tram", INDEX, () -> network.board(0, 3));
        CHECK.refused("P25 no such tram", INDEX, () -> network.board(0, -1));
        CHECK.refused("P25 another stop, and no ticket", ELEMENT, () -> network.board(0, 1));
        CHECK.refused("P25 no ticket", UNSUPPORTED, () -> network.board(0, 0));
        CHECK.no("P32 no ticket", network.canBoard(0, 0));
        CHECK.no("P32 another stop", network.canBoard(0, 1));
        network.sellTicket(0, 1, 1);
        CHECK.refused("P25 another zone", UNSUPPORTED, () -> network.board(0, 0));
        CHECK.no("P32 another zone", network.canBoard(0, 0));
        network.sellTicket(0, 0, 1);
        network.board(0, 0);
        CHECK.no("P32 on a tram", network.canBoard(0, 0));
        CHECK.refused("P25 on a tram", STATE, () -> network.board(0, 0));
        CHECK.refused("P25 on a tram, and the other elsewhere", STATE, () -> network.board(0, 1));
        CHECK.refused("P25 on a tram, but no such tram", INDEX, () -> network.board(0, 3));
        network.alight(0);
        network.board(0, 2);
        network.alight(0);
        CHECK.same("P30 ridesOf", 0, network.ridesOf(0));
        CHECK.refused("P25 no rides", UNSUPPORTED, () -> network.board(0, 0));
        CHECK.no("P32 no rides", network.canBoard(0, 0));
        CHECK.same("P25 a refused boarding changes nothing", 0, network.stopOfPassenger(0));
        CHECK.refused("P32 no such passenger", INDEX, () -> network.canBoard(1, 0));
        CHECK.refused("P32 no such passenger", INDEX, () -> network.canBoard(-1, 0));
        CHECK.refused("P32 no such tram", INDEX, () -> network.canBoard(0, 3));
        CHECK.refused("P32 no such tram", INDEX, () -> network.canBoard(0, -1));
    }

    private static void alighting() {
        TramNetwork network = crossing();
        network.addPassenger(0);
        network.sellTicket(0, 0, 9);
        CHECK.refused("P26 not on a tram", STATE, () -> network.alight(0));
        CHECK.refused("P26 no such passenger", INDEX, () -> network.alight(1));
        CHECK.refused("P26 no such passenger", INDEX, () -> network.alight(-1));
        network.board(0, 0);
        CHECK.same("P26 where it boarded", 0, network.alight(0));
        CHECK.refused("P26 not on a tram any more", STATE, () -> network.alight(0));
        network.board(0, 0);
        network.tick();
        network.tick();
        CHECK.same("P26 at the last stop", 2, network.alight(0));
        CHECK.same("P28 stopOfPassenger", 2, network.stopOfPassenger(0));
    }

    private static void transfers() {
        TramNetwork network = crossing();
        network.addPassenger(0);
        CHECK.no("P33 never alighted", network.isTransfer(0, 1));
        network.sellTicket(0, 0, 1);
        network.board(0, 0);
        network.tick();
        CHECK.no("P33 on a tram", network.isTransfer(0, 1));
        network.alight(0);
        CHECK.yes("P33 another line", network.isTransfer(0, 1));
        CHECK.no("P33 the same line", network.isTransfer(0, 0));
        CHECK.yes("P32 a transfer without rides", network.canBoard(0, 1));
        CHECK.no("P25 a transfer uses no ride", network.board(0, 1));
        CHECK.same("P25 the rides", 0, network.ridesOf(0));
        CHECK.same("P29 tramOfPassenger", 1, network.tramOfPassenger(0));
        CHECK.no("P33 on a tram", network.isTransfer(0, 0));

        TramNetwork later = crossing();
        later.addPassenger(0);
        later.sellTicket(0, 0, 9);
        later.sellTicket(0, 1, 1);
        later.board(0, 0);
        later.tick();
        later.alight(0);
        later.tick();
        CHECK.yes("P33 one tick later", later.isTransfer(0, 1));
        later.tick();
        CHECK.no("P33 two ticks later", later.isTransfer(0, 1));
        CHECK.same("P25 the rides", 9, later.ridesOf(0));
        CHECK.yes("P32 with a ticket", later.canBoard(0, 1));
        CHECK.yes("P25 too late for a transfer", later.board(0, 1));
        CHECK.same("P25 the rides", 8, later.ridesOf(0));

        CHECK.refused("P33 no such line", INDEX, () -> network.isTransfer(0, 2));
        CHECK.refused("P33 no such line", INDEX, () -> network.isTransfer(0, -1));
        CHECK.refused("P33 no such passenger", INDEX, () -> network.isTransfer(1, 0));
        CHECK.refused("P33 no such passenger", INDEX, () -> network.isTransfer(-1, 0));
    }

    private static void noTransferToTheSameLine() {
        TramNetwork network = crossing();
        network.addPassenger(0);
        network.sellTicket(0, 0, 2);
        network.board(0, 0);
        network.alight(0);
        CHECK.yes("P25 another tram of the same line", network.board(0, 2));
        CHECK.same("P25 the rides", 0, network.ridesOf(0));
    }

    private static void transfersReplaceOneAnother() {
        TramNetwork network = crossing();
        network.addPassenger(0);
        network.sellTicket(0, 0, 1);
        network.board(0, 0);
        network.tick();
        network.alight(0);
        network.board(0, 1);
        network.alight(0);
        CHECK.no("P33 the line left last", network.isTransfer(0, 1));
        CHECK.yes("P33 the line left before", network.isTransfer(0, 0));
        CHECK.no("P25 back to the first line", network.board(0, 0));
        network.alight(0);
        CHECK.no("P33 the line left last", network.isTransfer(0, 0));
        CHECK.yes("P33 the line left before", network.isTransfer(0, 1));
    }

    private static void missingPassengers() {
        TramNetwork network = crossing();
        network.addPassenger(0);
        for (int passenger : new int[] {-1, 1, 8, Integer.MIN_VALUE, Integer.MAX_VALUE}) {
            CHECK.refused("P28 stopOfPassenger", INDEX, () -> network.stopOfPassenger(passenger));
            CHECK.refused("P29 tramOfPassenger", INDEX, () -> network.tramOfPassenger(passenger));
            CHECK.refused("P30 ridesOf", INDEX, () -> network.ridesOf(passenger));
            CHECK.refused("P31 isValidIn", INDEX, () -> network.isValidIn(passenger, 0));
            CHECK.refused("P31 the passenger comes first", INDEX, () -> network.isValidIn(passenger, 4));
        }
        CHECK.refused("P31 zone -1", ARGUMENT, () -> network.isValidIn(0, -1));
        CHECK.refused("P31 zone 4", ARGUMENT, () -> network.isValidIn(0, 4));
    }
}

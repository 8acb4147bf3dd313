/** A network with as much of everything as the document allows: each query at its largest numbers. */
public final class FullNetworkTest {
    private static final Class<IllegalStateException> STATE = IllegalStateException.class;
    private static final Class<IndexOutOfBoundsException> INDEX = IndexOutOfBoundsException.class;

    private static final Check CHECK = new Check();

    public static void main(String[] args) {
        TramNetwork network = full();
        counts(network);
        CHECK.yes("P51 with secrets", network.isConsistent());
        gossip(network);
        CHECK.yes("P51 with truths", network.isConsistent());
        nothingMore(network);
        lastCommands();
        CHECK.finish();
    }

    /** Line l goes from stop l to stop l + 5; trams 0 and 5 are on line 0, with everybody at stop 0. */
    private static TramNetwork full() {
        TramNetwork network = new TramNetwork();
        for (int stop = 0; stop < 10; stop++) {
            network.addStop(stop % 4);
        }
        for (int line = 0; line < 5; line++) {
            network.addLine(line, line + 1);
            for (int position = 2; position < 6; position++) {
                network.extendLine(line, line + position);
            }
        }
        for (int tram = 0; tram < 6; tram++) {
            network.addTram(tram % 5);
        }
        for (int passenger = 0; passenger < 8; passenger++) {
            network.addPassenger(0);
            network.sellTicket(passenger, 0, passenger + 1);
        }
        for (int secret = 0; secret < 6; secret++) {
            network.addSecret(7);
        }
        return network;
    }

    private static void counts(TramNetwork network) {
        CHECK.same("P5 stopCount", 10, network.stopCount());
        CHECK.same("P8 lineCount", 5, network.lineCount());
        CHECK.same("P15 tramCount", 6, network.tramCount());
        CHECK.same("P27 passengerCount", 8, network.passengerCount());
        CHECK.same("P36 secretCount", 6, network.secretCount());
        CHECK.same("P10 stopAt(4,5)", 9, network.stopAt(4, 5));
        CHECK.same("P6 zoneOf(9)", 1, network.zoneOf(9));
        CHECK.yes("P7 isTerminus(9)", network.isTerminus(9));
        CHECK.same("P11 commonStops(0,4)", 2, network.commonStops(0, 4));
        CHECK.same("P42 distance(0,9)", 9, network.distance(0, 9));
        CHECK.same("P43 distanceByRelaxation(0,9)", 9, network.distanceByRelaxation(0, 9));
        CHECK.same("P44 changes(0,9)", 1, network.changes(0, 9));
        CHECK.same("P45 changesByGrowth(0,9)", 1, network.changesByGrowth(0, 9));
        CHECK.exact("P49 meanRides", 4.5, network.meanRides());
        CHECK.exact("P50 truthShare", 0, network.truthShare());
        CHECK.same("P46 writeLine(4)", 11, network.writeLine(4));
        CHECK.same("P47 writePassenger(7)", 17, network.writePassenger(7));
        CHECK.same("P41 wisestPassenger(0)", 7, network.wisestPassenger(0));
        CHECK.same("P41 wisestPassenger(7)", 6, network.wisestPassenger(7));
        CHECK.same("P21 arrivalOf(4,9)", 5, network.arrivalOf(4, 9));
        CHECK.same("P22 arrivalBySimulation(4,9)", 5, network.arrivalBySimulation(4, 9));
    }

    private static void gossip(TramNetwork network) {
        for (int passenger = 0; passenger < 8; passenger++) {
            network.board(passenger, 5);
        }
        CHECK.same("P19 crowdOf(5)", 8, network.crowdOf(5));
        CHECK.same("P20 fullestTram", 5, network.fullestTram());
        CHECK.same("P35 whisper", 8, network.whisper(5, 0));
        CHECK.same("P40 knowerCount(5)", 8, network.knowerCount(5));
        CHECK.same("P41 wisestPassenger(1)", 0, network.wisestPassenger(1));
        for (int passed = 0; passed < 5; passed++) {
            CHECK.same("P13 tick", passed < 4 ? 0 : 6, network.tick());
        }
        CHECK.same("P26 alight", 5, network.alight(7));
        CHECK.exact("P50 truthShare", 5.0f / 6.0f, network.truthShare());
        CHECK.yes("P51 with secrets and truths", network.isConsistent());
        CHECK.same("P26 alight", 5, network.alight(0));
        CHECK.exact("P50 truthShare", 1, network.truthShare());
        CHECK.same("P37 carrierOf(5)", -1, network.carrierOf(5));
        CHECK.yes("P38 isTruth(5)", network.isTruth(5));
    }

    private static void nothingMore(TramNetwork network) {
        CHECK.refused("P2 addStop", STATE, () -> network.addStop(0));
        CHECK.refused("P3 addLine", STATE, () -> network.addLine(0, 1));
        CHECK.refused("P4 extendLine", STATE, () -> network.extendLine(4, 0));
        CHECK.refused("P12 addTram", STATE, () -> network.addTram(0));
        CHECK.refused("P23 addPassenger", STATE, () -> network.addPassenger(0));
        CHECK.refused("P34 addSecret", STATE, () -> network.addSecret(0));
        CHECK.refused("P6 zoneOf(10)", INDEX, () -> network.zoneOf(10));
        CHECK.refused("P7 isTerminus(10)", INDEX, () -> network.isTerminus(10));
        CHECK.refused("P9 lineLength(5)", INDEX, () -> network.lineLength(5));
        CHECK.refused("P19 crowdOf(6)", INDEX, () -> network.crowdOf(6));
        CHECK.refused("P30 ridesOf(8)", INDEX, () -> network.ridesOf(8));
        CHECK.refused("P40 knowerCount(6)", INDEX, () -> network.knowerCount(6));
        CHECK.refused("P42 distance(10,0)", INDEX, () -> network.distance(10, 0));
    }

    /** Twelve commands are the most that a text can hold. */
    private static void lastCommands() {
        TramNetwork network = new TramNetwork();
        for (char character : "tick;tick;tick;tick;tick;tick;tick;tick;tick;tick;tick;tram".toCharArray()) {
            network.type(character);
        }
        CHECK.refused("P53 malformed at the end", IllegalArgumentException.class, network::execute);
        CHECK.same("P54 errorPosition", 59, network.errorPosition());
        for (char character : "tick;tick;tick;tick;tick;tick;tick;tick;tick;tick;tick;tick".toCharArray()) {
            network.type(character);
        }
        CHECK.same("P53 execute", 12, network.execute());
        for (int passed = 13; passed <= 200; passed++) {
            network.tick();
            CHECK.same("P14 tickCount", passed, network.tickCount());
        }
    }
}

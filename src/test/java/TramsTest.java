import java.util.NoSuchElementException;

/** Promises 12 to 22. */
public final class TramsTest {
    private static final Class<IndexOutOfBoundsException> INDEX = IndexOutOfBoundsException.class;
    private static final Class<IllegalStateException> STATE = IllegalStateException.class;
    private static final Class<NoSuchElementException> ELEMENT = NoSuchElementException.class;

    private static final Check CHECK = new Check();

    public static void main(String[] args) {
        addTram();
        moving();
        extending();
        missingTrams();
        crowds();
        arrivals();
        arrivalsAfterExtension();
        missingArrivals();
        CHECK.finish();
    }

    /** Line 0 is 0-1-2-3, line 1 is 4-5; all stops are in zone 0. */
    private static TramNetwork twoLines() {
        TramNetwork network = new TramNetwork();
        for (int stop = 0; stop < 6; stop++) {
            network.addStop(0);
        }
        network.addLine(0, 1);
        network.extendLine(0, 2);
        network.extendLine(0, 3);
        network.addLine(4, 5);
        return network;
    }

    private static void addTram() {
        TramNetwork network = twoLines();
        CHECK.refused("P12 addTram(2)", INDEX, () -> network.addTram(2));
        CHECK.refused("P12 addTram(-1)", INDEX, () -> network.addTram(-1));
        CHECK.same("P15 tramCount", 0, network.tramCount());
        for (int tram = 0; tram < 6; tram++) {
            CHECK.same("P12 addTram", tram, network.addTram(tram % 2));
            CHECK.same("P15 tramCount", tram + 1, network.tramCount());
            CHECK.same("P16 lineOfTram", tram % 2, network.lineOfTram(tram));
            CHECK.same("P12 at position 0", tram % 2 == 0 ? 0 : 4, network.stopOfTram(tram));
            CHECK.yes("P12 moves forward", network.isForward(tram));
        }
        CHECK.refused("P12 a seventh tram", STATE, () -> network.addTram(0));
        CHECK.refused("P12 the missing line comes first", INDEX, () -> network.addTram(2));
        CHECK.same("P15 tramCount", 6, network.tramCount());
    }

    private static void moving() {
        TramNetwork network = twoLines();
        CHECK.same("P13 tick without trams", 0, network.tick());
        CHECK.same("P14 tickCount", 1, network.tickCount());
        network.addTram(0);
        network.addTram(1);
        network.addTram(1);
        int[] longStops = {1, 2, 3, 2, 1, 0, 1};
        boolean[] longForward = {true, true, false, false, false, true, true};
        int[] arrived = {2, 2, 3, 2, 2, 3, 2};
        for (int passed = 0; passed < 7; passed++) {
            CHECK.same("P13 tick", arrived[passed], network.tick());
            CHECK.same("P14 tickCount", passed + 2, network.tickCount());
            CHECK.same("P17 stopOfTram(0)", longStops[passed], network.stopOfTram(0));
            CHECK.same("P17 stopOfTram(1)", passed % 2 == 0 ? 5 : 4, network.stopOfTram(1));
            CHECK.same("P17 stopOfTram(2)", passed % 2 == 0 ? 5 : 4, network.stopOfTram(2));
            CHECK.same("P18 isForward(0)", longForward[passed] ? 1 : 0, network.isForward(0) ? 1 : 0);
            CHECK.same("P18 isForward(1)", passed % 2, network.isForward(1) ? 1 : 0);
        }
    }

    private static void extending() {
        TramNetwork network = twoLines();
        network.addTram(1);
        network.tick();
        network.extendLine(1, 0);
        CHECK.same("P13 an extended line keeps positions", 5, network.stopOfTram(0));
        CHECK.no("P13 an extended line keeps directions", network.isForward(0));
        CHECK.same("P13 back at position 0", 1, network.tick());
        CHECK.same("P17 stopOfTram", 4, network.stopOfTram(0));
        CHECK.same("P13 between the ends", 0, network.tick());
        CHECK.yes("P18 isForward", network.isForward(0));
        CHECK.same("P13 the new end", 1, network.tick());
        CHECK.same("P17 stopOfTram", 0, network.stopOfTram(0));
    }

    private static void missingTrams() {
        TramNetwork network = twoLines();
        CHECK.refused("P20 fullestTram", ELEMENT, network::fullestTram);
        network.addTram(0);
        for (int tram : new int[] {-1, 1, 6, Integer.MIN_VALUE, Integer.MAX_VALUE}) {
            CHECK.refused("P16 lineOfTram", INDEX, () -> network.lineOfTram(tram));
            CHECK.refused("P17 stopOfTram", INDEX, () -> network.stopOfTram(tram));
            CHECK.refused("P18 isForward", INDEX, () -> network.isForward(tram));
            CHECK.refused("P19 crowdOf", INDEX, () -> network.crowdOf(tram));
        }
    }

    private static void crowds() {
        TramNetwork network = twoLines();
        network.addTram(0);
        network.addTram(1);
        network.addTram(0);
        CHECK.same("P20 nobody anywhere", 0, network.fullestTram());
        for (int passenger = 0; passenger < 5; passenger++) {
            network.addPassenger(passenger == 4 ? 4 : 0);
            network.sellTicket(passenger, 0, 1);
        }
        CHECK.same("P19 crowdOf(0)", 0, network.crowdOf(0));
        network.board(0, 2);
        CHECK.same("P20 fullestTram", 2, network.fullestTram());
        network.board(4, 1);
        CHECK.same("P20 the lowest of two", 1, network.fullestTram());
        network.board(1, 0);
        CHECK.same("P20 the lowest of three", 0, network.fullestTram());
        network.board(2, 2);
        network.board(3, 2);
        CHECK.same("P19 crowdOf(0)", 1, network.crowdOf(0));
        CHECK.same("P19 crowdOf(1)", 1, network.crowdOf(1));
        CHECK.same("P19 crowdOf(2)", 3, network.crowdOf(2));
        CHECK.same("P20 fullestTram", 2, network.fullestTram());
        network.alight(2);
        CHECK.same("P19 crowdOf(2)", 2, network.crowdOf(2));
    }

    private static void arrives(TramNetwork network, int stop, int due) {
        CHECK.same("P21 arrivalOf(0," + stop + ")", due, network.arrivalOf(0, stop));
        CHECK.same("P22 arrivalBySimulation(0," + stop + ")", due, network.arrivalBySimulation(0, stop));
    }

    private static void arrivals() {
        TramNetwork network = twoLines();
        network.addTram(0);
        int[][] due = {
            {0, 1, 2, 3}, {5, 0, 1, 2}, {4, 3, 0, 1}, {3, 2, 1, 0}, {2, 1, 0, 5}, {1, 0, 3, 4}, {0, 1, 2, 3},
        };
        for (int[] row : due) {
            for (int stop = 0; stop < 4; stop++) {
                arrives(network, stop, row[stop]);
            }
            network.tick();
        }
        CHECK.same("P22 moves no tram", 7, network.tickCount());
        CHECK.same("P22 moves no tram", 1, network.stopOfTram(0));
    }

    private static void arrivalsAfterExtension() {
        TramNetwork network = twoLines();
        network.addTram(0);
        for (int passed = 0; passed < 3; passed++) {
            network.tick();
        }
        network.extendLine(0, 4);
        network.extendLine(0, 5);
        arrives(network, 0, 3);
        arrives(network, 3, 0);
        arrives(network, 4, 7);
        arrives(network, 5, 8);
        network.tick();
        arrives(network, 3, 5);
        arrives(network, 5, 7);
        network.tick();
        network.tick();
        network.tick();
        arrives(network, 0, 9);
        arrives(network, 1, 0);
        arrives(network, 5, 4);
    }

    private static void missingArrivals() {
        TramNetwork network = twoLines();
        network.addTram(0);
        CHECK.refused("P21 a stop of another line", ELEMENT, () -> network.arrivalOf(0, 4));
        CHECK.refused("P22 a stop of another line", ELEMENT, () -> network.arrivalBySimulation(0, 4));
        int[][] missing = {{1, 0}, {-1, 0}, {0, 6}, {0, -1}, {1, 4}, {6, 6}};
        for (int[] pair : missing) {
            CHECK.refused("P21 arrivalOf", INDEX, () -> network.arrivalOf(pair[0], pair[1]));
            CHECK.refused("P22 arrivalBySimulation", INDEX, () -> network.arrivalBySimulation(pair[0], pair[1]));
        }
    }
}

import java.util.NoSuchElementException;

/** Promises 1 to 11. */
public final class StopsAndLinesTest {
    private static final Class<IndexOutOfBoundsException> INDEX = IndexOutOfBoundsException.class;
    private static final Class<IllegalArgumentException> ARGUMENT = IllegalArgumentException.class;
    private static final Class<IllegalStateException> STATE = IllegalStateException.class;
    private static final Class<NoSuchElementException> ELEMENT = NoSuchElementException.class;

    private static final Check CHECK = new Check();

    public static void main(String[] args) {
        newObject();
        addStop();
        addLine();
        extendLine();
        zonesAndCounts();
        termini();
        positions();
        commonStops();
        CHECK.finish();
    }

    private static TramNetwork withStops(int count) {
        TramNetwork network = new TramNetwork();
        for (int stop = 0; stop < count; stop++) {
            network.addStop(stop % 4);
        }
        return network;
    }

    private static void newObject() {
        TramNetwork network = new TramNetwork();
        CHECK.same("P1 stopCount", 0, network.stopCount());
        CHECK.same("P1 lineCount", 0, network.lineCount());
        CHECK.same("P1 tramCount", 0, network.tramCount());
        CHECK.same("P1 passengerCount", 0, network.passengerCount());
        CHECK.same("P1 secretCount", 0, network.secretCount());
        CHECK.same("P1 tickCount", 0, network.tickCount());
        CHECK.yes("P1 isConsistent", network.isConsistent());
        CHECK.refused("P1 undo", STATE, network::undo);
        CHECK.refused("P1 restore", STATE, network::restore);
    }

    private static void addStop() {
        TramNetwork network = new TramNetwork();
        CHECK.refused("P2 addStop(-1)", ARGUMENT, () -> network.addStop(-1));
        CHECK.refused("P2 addStop(4)", ARGUMENT, () -> network.addStop(4));
        CHECK.refused("P2 addStop(min)", ARGUMENT, () -> network.addStop(Integer.MIN_VALUE));
        CHECK.refused("P2 addStop(max)", ARGUMENT, () -> network.addStop(Integer.MAX_VALUE));
        CHECK.same("P2 stopCount", 0, network.stopCount());
        for (int stop = 0; stop < 10; stop++) {
            CHECK.same("P2 addStop", stop, network.addStop(stop % 4));
        }
        CHECK.refused("P2 an eleventh stop", STATE, () -> network.addStop(0));
        CHECK.refused("P2 the zone comes first", ARGUMENT, () -> network.addStop(4));
        CHECK.same("P2 stopCount", 10, network.stopCount());
        CHECK.no("P2 on no line", network.isTerminus(9));
    }

    private static void addLine() {
        TramNetwork network = withStops(3);
        CHECK.refused("P3 addLine(3,0)", INDEX, () -> network.addLine(3, 0));
        CHECK.refused("P3 addLine(0,3)", INDEX, () -> network.addLine(0, 3));
        CHECK.refused("P3 addLine(-1,0)", INDEX, () -> network.addLine(-1, 0));
        CHECK.refused("P3 addLine(0,-1)", INDEX, () -> network.addLine(0, -1));
        CHECK.refused("P3 addLine(3,3)", INDEX, () -> network.addLine(3, 3));
        CHECK.refused("P3 addLine(1,1)", ARGUMENT, () -> network.addLine(1, 1));
        for (int line = 0; line < 5; line++) {
            CHECK.same("P3 addLine", line, network.addLine(2, line % 2));
            CHECK.same("P3 lineLength", 2, network.lineLength(line));
            CHECK.same("P3 first", 2, network.stopAt(line, 0));
            CHECK.same("P3 second", line % 2, network.stopAt(line, 1));
        }
        CHECK.refused("P3 a sixth line", STATE, () -> network.addLine(0, 1));
        CHECK.refused("P3 the same stops come first", ARGUMENT, () -> network.addLine(0, 0));
        CHECK.refused("P3 the missing stop comes first", INDEX, () -> network.addLine(0, 9));
        CHECK.same("P3 lineCount", 5, network.lineCount());
    }

    private static void extendLine() {
        TramNetwork network = withStops(8);
        network.addLine(7, 6);
        CHECK.refused("P4 extendLine(1,0)", INDEX, () -> network.extendLine(1, 0));
        CHECK.refused("P4 extendLine(-1,0)", INDEX, () -> network.extendLine(-1, 0));
        CHECK.refused("P4 extendLine(0,8)", INDEX, () -> network.extendLine(0, 8));
        CHECK.refused("P4 extendLine(0,-1)", INDEX, () -> network.extendLine(0, -1));
        CHECK.refused("P4 extendLine(0,7)", ARGUMENT, () -> network.extendLine(0, 7));
        CHECK.refused("P4 extendLine(0,6)", ARGUMENT, () -> network.extendLine(0, 6));
        for (int position = 2; position < 6; position++) {
            CHECK.same("P4 extendLine", position, network.extendLine(0, 7 - position));
            CHECK.same("P4 lineLength", position + 1, network.lineLength(0));
        }
        CHECK.refused("P4 a seventh stop", STATE, () -> network.extendLine(0, 0));
        CHECK.refused("P4 the repeated stop comes first", ARGUMENT, () -> network.extendLine(0, 2));
        CHECK.refused("P4 the missing stop comes first", INDEX, () -> network.extendLine(0, 8));
        CHECK.same("P4 lineLength", 6, network.lineLength(0));
    }

    private static void zonesAndCounts() {
        TramNetwork network = withStops(6);
        for (int stop = 0; stop < 6; stop++) {
            CHECK.same("P6 zoneOf", stop % 4, network.zoneOf(stop));
        }
        CHECK.refused("P6 zoneOf(-1)", INDEX, () -> network.zoneOf(-1));
        CHECK.refused("P6 zoneOf(6)", INDEX, () -> network.zoneOf(6));
        CHECK.same("P5 stopCount", 6, network.stopCount());
        CHECK.same("P8 lineCount", 0, network.lineCount());
        network.addLine(0, 1);
        network.addLine(1, 2);
        network.extendLine(1, 4);
        CHECK.same("P5 stopCount", 6, network.stopCount());
        CHECK.same("P8 lineCount", 2, network.lineCount());
        CHECK.same("P9 lineLength", 2, network.lineLength(0));
        CHECK.same("P9 lineLength", 3, network.lineLength(1));
        CHECK.refused("P9 lineLength(-1)", INDEX, () -> network.lineLength(-1));
        CHECK.refused("P9 lineLength(2)", INDEX, () -> network.lineLength(2));
    }

    private static void termini() {
        TramNetwork network = withStops(5);
        network.addLine(0, 1);
        CHECK.yes("P7 the first stop", network.isTerminus(0));
        CHECK.yes("P7 the last stop", network.isTerminus(1));
        CHECK.no("P7 a stop on no line", network.isTerminus(2));
        network.extendLine(0, 2);
        CHECK.no("P7 a stop between", network.isTerminus(1));
        CHECK.yes("P7 the new last stop", network.isTerminus(2));
        network.addLine(3, 1);
        CHECK.yes("P7 an end of another line", network.isTerminus(1));
        CHECK.refused("P7 isTerminus(-1)", INDEX, () -> network.isTerminus(-1));
        CHECK.refused("P7 isTerminus(5)", INDEX, () -> network.isTerminus(5));
    }

    private static void positions() {
        TramNetwork network = withStops(5);
        network.addLine(4, 2);
        network.extendLine(0, 3);
        CHECK.same("P10 stopAt(0,0)", 4, network.stopAt(0, 0));
        CHECK.same("P10 stopAt(0,1)", 2, network.stopAt(0, 1));
        CHECK.same("P10 stopAt(0,2)", 3, network.stopAt(0, 2));
        CHECK.refused("P10 stopAt(0,3)", ELEMENT, () -> network.stopAt(0, 3));
        CHECK.refused("P10 stopAt(0,-1)", ELEMENT, () -> network.stopAt(0, -1));
        CHECK.refused("P10 stopAt(0,6)", ELEMENT, () -> network.stopAt(0, 6));
        CHECK.refused("P10 stopAt(1,0)", INDEX, () -> network.stopAt(1, 0));
        CHECK.refused("P10 stopAt(-1,-1)", INDEX, () -> network.stopAt(-1, -1));
    }

    private static void commonStops() {
        TramNetwork network = withStops(6);
        network.addLine(0, 1);
        network.extendLine(0, 2);
        network.addLine(2, 3);
        network.extendLine(1, 0);
        network.addLine(4, 5);
        CHECK.same("P11 two in common", 2, network.commonStops(0, 1));
        CHECK.same("P11 the other way", 2, network.commonStops(1, 0));
        CHECK.same("P11 none in common", 0, network.commonStops(0, 2));
        CHECK.same("P11 a line with itself", 3, network.commonStops(0, 0));
        CHECK.refused("P11 commonStops(3,0)", INDEX, () -> network.commonStops(3, 0));
        CHECK.refused("P11 commonStops(0,3)", INDEX, () -> network.commonStops(0, 3));
        CHECK.refused("P11 commonStops(-1,0)", INDEX, () -> network.commonStops(-1, 0));
        CHECK.refused("P11 commonStops(0,-1)", INDEX, () -> network.commonStops(0, -1));
    }
}

import java.util.NoSuchElementException;

/** Promises 42 to 45 and 51. */
public final class PathsTest {
    private static final Class<IndexOutOfBoundsException> INDEX = IndexOutOfBoundsException.class;
    private static final Class<NoSuchElementException> ELEMENT = NoSuchElementException.class;

    private static final Check CHECK = new Check();

    public static void main(String[] args) {
        oneLine();
        shortCuts();
        fewerChangesOnALongerWay();
        chain();
        searchesOneAfterAnother();
        nothingFound();
        missingStops();
        CHECK.finish();
    }

    private static TramNetwork withLines(int stops, int[]... lines) {
        TramNetwork network = new TramNetwork();
        for (int stop = 0; stop < stops; stop++) {
            network.addStop(stop % 4);
        }
        for (int[] line : lines) {
            int number = network.addLine(line[0], line[1]);
            for (int position = 2; position < line.length; position++) {
                network.extendLine(number, line[position]);
            }
        }
        return network;
    }

    private static void apart(TramNetwork network, int from, int to, int steps, int changes) {
        String pair = "(" + from + "," + to + ")";
        CHECK.same("P42 distance" + pair, steps, network.distance(from, to));
        CHECK.same("P43 distanceByRelaxation" + pair, steps, network.distanceByRelaxation(from, to));
        CHECK.same("P44 changes" + pair, changes, network.changes(from, to));
        CHECK.same("P45 changesByGrowth" + pair, changes, network.changesByGrowth(from, to));
    }

    private static void bothWays(TramNetwork network, int from, int to, int steps, int changes) {
        apart(network, from, to, steps, changes);
        apart(network, to, from, steps, changes);
        CHECK.yes("P51 isConsistent", network.isConsistent());
    }

    private static void apartForEver(TramNetwork network, int from, int to) {
        CHECK.refused("P42 distance", ELEMENT, () -> network.distance(from, to));
        CHECK.refused("P43 distanceByRelaxation", ELEMENT, () -> network.distanceByRelaxation(from, to));
        CHECK.refused("P44 changes", ELEMENT, () -> network.changes(from, to));
        CHECK.refused("P45 changesByGrowth", ELEMENT, () -> network.changesByGrowth(from, to));
        CHECK.yes("P51 neither finds anything", network.isConsistent());
    }

    private static void oneLine() {
        TramNetwork network = withLines(6, new int[] {5, 3, 1, 0, 2, 4});
        bothWays(network, 5, 4, 5, 0);
        bothWays(network, 3, 0, 2, 0);
        bothWays(network, 1, 1, 0, 0);
    }

    private static void shortCuts() {
        TramNetwork network = withLines(6, new int[] {0, 1, 2, 3, 4, 5}, new int[] {1, 4});
        bothWays(network, 0, 5, 3, 0);
        bothWays(network, 1, 4, 1, 0);
        bothWays(network, 2, 4, 2, 0);
        bothWays(network, 2, 5, 3, 0);
    }

    private static void fewerChangesOnALongerWay() {
        TramNetwork network = withLines(7, new int[] {0, 1}, new int[] {1, 2}, new int[] {2, 3},
            new int[] {0, 4, 5, 6, 3});
        bothWays(network, 0, 3, 3, 0);
        bothWays(network, 0, 2, 2, 1);
        bothWays(network, 1, 3, 2, 1);
        bothWays(network, 4, 2, 3, 1);
        bothWays(network, 6, 1, 3, 1);
    }

    private static void chain() {
        TramNetwork network = withLines(10, new int[] {8, 9}, new int[] {5, 6, 7, 8}, new int[] {4, 5},
            new int[] {1, 2, 3, 4}, new int[] {0, 1});
        bothWays(network, 0, 9, 9, 4);
        bothWays(network, 0, 7, 7, 3);
        bothWays(network, 2, 6, 4, 2);
        bothWays(network, 1, 5, 4, 1);
        TramNetwork turned = withLines(10, new int[] {1, 0}, new int[] {4, 3, 2, 1}, new int[] {5, 4},
            new int[] {8, 7, 6, 5}, new int[] {9, 8});
        bothWays(turned, 0, 9, 9, 4);
        bothWays(turned, 9, 2, 7, 3);
    }

    /** What one search found must not be taken for an answer of the next. */
    private static void searchesOneAfterAnother() {
        TramNetwork network = withLines(7, new int[] {0, 1, 2, 3}, new int[] {4, 5});
        CHECK.same("P43 distanceByRelaxation(0,3)", 3, network.distanceByRelaxation(0, 3));
        CHECK.same("P43 distanceByRelaxation(3,2)", 1, network.distanceByRelaxation(3, 2));
        CHECK.same("P43 distanceByRelaxation(3,0)", 3, network.distanceByRelaxation(3, 0));
        CHECK.refused("P43 distanceByRelaxation(4,0)", ELEMENT, () -> network.distanceByRelaxation(4, 0));
        CHECK.same("P42 distance(2,0)", 2, network.distance(2, 0));
        CHECK.same("P42 distance(0,3)", 3, network.distance(0, 3));
        CHECK.refused("P42 distance(5,3)", ELEMENT, () -> network.distance(5, 3));
        CHECK.same("P44 changes(4,5)", 0, network.changes(4, 5));
        CHECK.refused("P44 changes(6,0)", ELEMENT, () -> network.changes(6, 0));
        CHECK.same("P45 changesByGrowth(0,3)", 0, network.changesByGrowth(0, 3));
        CHECK.refused("P45 changesByGrowth(4,3)", ELEMENT, () -> network.changesByGrowth(4, 3));
    }

    private static void nothingFound() {
        TramNetwork network = withLines(6, new int[] {0, 1}, new int[] {2, 3});
        apartForEver(network, 0, 2);
        apartForEver(network, 3, 1);
        apartForEver(network, 0, 4);
        apartForEver(network, 4, 0);
        apartForEver(network, 4, 5);
        bothWays(network, 5, 5, 0, 0);
        network.extendLine(0, 2);
        bothWays(network, 0, 3, 3, 1);
        network.undo();
        apartForEver(network, 0, 3);
    }

    private static void missingStops() {
        TramNetwork network = withLines(3, new int[] {0, 1});
        int[][] missing = {{3, 0}, {0, 3}, {-1, 0}, {0, -1}, {3, 3}, {-1, -1}, {2, 10}};
        for (int[] pair : missing) {
            CHECK.refused("P42 distance", INDEX, () -> network.distance(pair[0], pair[1]));
            CHECK.refused("P43 distanceByRelaxation", INDEX, () -> network.distanceByRelaxation(pair[0], pair[1]));
            CHECK.refused("P44 changes", INDEX, () -> network.changes(pair[0], pair[1]));
            CHECK.refused("P45 changesByGrowth", INDEX, () -> network.changesByGrowth(pair[0], pair[1]));
        }
    }
}

/** Promises 42 to 45 and 51, and what "Terms" says of paths. */
final class BoundsOfPaths extends Bounds {
    private static final String NO_STOP = "Throws `IndexOutOfBoundsException` if either stop does not exist";
    private static final String CHANGES = "The number of changes between two stops is the least number of lines on a"
        + " journey between them, minus 1; a journey on one line can go in both directions.";

    BoundsOfPaths(Check check) {
        super(check);
    }

    @Override
    Runnable[] tests() {
        return new Runnable[] {
            this::neighbouringPositions, this::shortestOfSeveralPaths, this::fewestLines, this::bothDirections,
            this::sameStop, this::distance, this::distanceOfMissingStops, this::distanceWithoutAPath,
            this::distanceByRelaxation, this::relaxationOfMissingStops, this::relaxationWithoutAPath, this::changes,
            this::changesOfMissingStops, this::changesWithoutAJourney, this::changesByGrowth,
            this::growthOfMissingStops, this::growthWithoutAJourney, this::consistentWhenEmptyAndFull,
            this::consistentWithTruths, this::consistentWhereNothingIsFound,
        };
    }

    private interface Pair {
        int of(TramNetwork network, int from, int to);
    }

    private static Scene town(int stops, int[]... lines) {
        return Scene.stops(stops).then(lines.length + " lines", one -> {
            for (int[] line : lines) {
                int number = one.addLine(line[0], line[1]);
                for (int position = 2; position < line.length; position++) {
                    one.extendLine(number, line[position]);
                }
            }
        });
    }

    /** Ten stops in a row, and as many lines as there can be between the first and the last. */
    private static Scene chain() {
        return town(10, new int[] {5, 6, 7}, new int[] {9, 8, 7}, new int[] {0, 1}, new int[] {3, 4, 5},
            new int[] {3, 2, 1});
    }

    private static Scene chainTurned() {
        return town(10, new int[] {0, 1}, new int[] {1, 2, 3}, new int[] {3, 4, 5}, new int[] {5, 6, 7},
            new int[] {7, 8, 9});
    }

    private void steps(Scene scene, int from, int to, int due) {
        both("distance", TramNetwork::distance, scene, from, to, due);
        both("distanceByRelaxation", TramNetwork::distanceByRelaxation, scene, from, to, due);
    }

    private void lines(Scene scene, int from, int to, int due) {
        both("changes", TramNetwork::changes, scene, from, to, due);
        both("changesByGrowth", TramNetwork::changesByGrowth, scene, from, to, due);
    }

    private void both(String name, Pair pair, Scene scene, int from, int to, int due) {
        answers(scene, name + "(" + from + ", " + to + ")", due, one -> pair.of(one, from, to));
        answers(scene, name + "(" + to + ", " + from + ")", due, one -> pair.of(one, to, from));
    }

    private void neighbouringPositions() {
        sentence("Terms", "Two stops are adjacent if they are at neighbouring positions of a line.");
        for (int length = 2; length <= 6; length++) {
            for (int from = 0; from < length; from++) {
                for (int to = from; to < length; to++) {
                    steps(Scene.lineOf(length), from, to, to - from);
                }
            }
        }
        Scene joined = town(4, new int[] {0, 1}, new int[] {2, 3});
        throwsOnly(joined, "the last stop of a line and the first of the next: distance(1, 2)", ELEMENT,
            one -> one.distance(1, 2));
        throwsOnly(joined, "distanceByRelaxation(1, 2)", ELEMENT, one -> one.distanceByRelaxation(1, 2));
    }

    private void shortestOfSeveralPaths() {
        sentence("Terms", "The distance of two stops is the number of steps between adjacent stops on a shortest"
            + " path.");
        Scene round = town(6, new int[] {0, 1, 2, 3, 4, 5}, new int[] {5, 0});
        steps(round, 0, 5, 1);
        steps(round, 0, 4, 2);
        steps(round, 0, 3, 3);
        steps(round, 1, 5, 2);
        steps(round, 1, 4, 3);
        Scene detour = town(8, new int[] {0, 1, 2, 3, 4, 5}, new int[] {0, 6, 7, 5});
        steps(detour, 0, 5, 3);
        steps(detour, 1, 5, 4);
        steps(detour, 1, 7, 3);
        steps(detour, 3, 6, 4);
        Scene last = town(10, new int[] {0, 1, 2, 3, 4, 5}, new int[] {6, 7}, new int[] {7, 8}, new int[] {8, 9},
            new int[] {0, 5});
        steps(last, 0, 5, 1);
        steps(last, 1, 4, 3);
        steps(last, 6, 9, 3);
    }

    private void fewestLines() {
        sentence("Terms", CHANGES);
        for (Scene scene : new Scene[] {chain(), chainTurned()}) {
            int[] due = {0, 0, 1, 1, 2, 2, 3, 3, 4, 4};
            for (int to = 1; to < 10; to++) {
                lines(scene, 0, to, due[to]);
            }
            lines(scene, 1, 9, 3);
            lines(scene, 3, 5, 0);
            lines(scene, 2, 4, 1);
        }
        Scene slow = town(8, new int[] {0, 1}, new int[] {1, 2}, new int[] {2, 3}, new int[] {0, 4, 5, 6, 7, 3});
        lines(slow, 0, 3, 0);
        steps(slow, 0, 3, 3);
        lines(slow, 1, 3, 1);
        lines(slow, 2, 4, 1);
        Scene same = town(3, new int[] {0, 1}, new int[] {0, 1}, new int[] {1, 0}, new int[] {1, 2});
        lines(same, 0, 1, 0);
        lines(same, 0, 2, 1);
    }

    private void bothDirections() {
        sentence("Terms", CHANGES);
        for (int length = 2; length <= 6; length++) {
            for (int from = 0; from < length; from++) {
                for (int to = 0; to < length; to++) {
                    lines(Scene.lineOf(length), from, to, 0);
                }
            }
        }
    }

    private void sameStop() {
        sentence("Terms", "Both are 0 if the two stops are the same.");
        for (Scene scene : new Scene[] {Scene.stops(10), Scene.lines(5), Scene.full(), chain()}) {
            for (int stop = 0; stop < 10; stop++) {
                steps(scene, stop, stop, 0);
                lines(scene, stop, stop, 0);
            }
        }
        steps(Scene.stops(1), 0, 0, 0);
        lines(Scene.stops(1), 0, 0, 0);
    }

    /** The longest way has 9 steps, over all stops. */
    private void longest(String name, Pair pair) {
        for (Scene scene : new Scene[] {chain(), chainTurned()}) {
            for (int from = 0; from < 10; from++) {
                for (int to = 0; to < 10; to++) {
                    int due = from < to ? to - from : from - to;
                    both(name, pair, scene, from, to, due);
                }
            }
        }
        both(name, pair, Scene.full(), 0, 9, 9);
        both(name, pair, Scene.full(), 4, 5, 1);
    }

    private void missingStops(String name, Pair pair) {
        numbers(name + "(., 0)", Scene::stops, 10, (one, number) -> pair.of(one, number, 0));
        numbers(name + "(0, .)", Scene::stops, 10, (one, number) -> pair.of(one, 0, number));
        refuses(Scene.lines(5), name + "(10, 10)", INDEX, one -> pair.of(one, 10, 10));
        refuses(Scene.lines(5), name + "(-1, -1)", INDEX, one -> pair.of(one, -1, -1));
        refuses(Scene.stops(3), name + "(3, 3)", INDEX, one -> pair.of(one, 3, 3));
        refuses(Scene.lines(1), name + "(9, 10)", INDEX, one -> pair.of(one, 9, 10));
    }

    private void nothingFound(String name, Pair pair) {
        apart(name, pair, Scene.stops(2), 0, 1);
        apart(name, pair, Scene.lineOf(6), 5, 6);
        apart(name, pair, Scene.lineOf(6), 0, 9);
        apart(name, pair, Scene.lineOf(6), 6, 9);
        Scene two = town(10, new int[] {0, 1, 2, 3, 4}, new int[] {5, 6, 7, 8, 9});
        apart(name, pair, two, 4, 5);
        apart(name, pair, two, 0, 9);
        Scene joined = two.then("a line of stops 4 and 5", one -> one.addLine(4, 5));
        apart(name, pair, joined.then("undo", TramNetwork::undo), 4, 5);
        apart(name, pair, Scene.lines(5), 5, 6);
    }

    private void apart(String name, Pair pair, Scene scene, int from, int to) {
        refuses(scene, name + "(" + from + ", " + to + ")", ELEMENT, one -> pair.of(one, from, to));
        refuses(scene, name + "(" + to + ", " + from + ")", ELEMENT, one -> pair.of(one, to, from));
    }

    private void fewest(String name, Pair pair) {
        both(name, pair, Scene.lines(1), 0, 1, 0);
        both(name, pair, chain(), 0, 9, 4);
        both(name, pair, chainTurned(), 0, 9, 4);
        both(name, pair, chain(), 1, 7, 2);
        both(name, pair, Scene.full(), 0, 9, 1);
        both(name, pair, Scene.full(), 0, 5, 0);
        both(name, pair, Scene.full(), 4, 9, 0);
        both(name, pair, Scene.full(), 1, 1, 0);
        Scene star = town(10, new int[] {0, 1}, new int[] {0, 2}, new int[] {0, 3}, new int[] {0, 4},
            new int[] {9, 4});
        both(name, pair, star, 1, 2, 1);
        both(name, pair, star, 1, 4, 1);
        both(name, pair, star, 1, 9, 2);
    }

    private void distance() {
        sentence("P42", "Returns the distance of two stops, by breadth-first search.");
        longest("distance", TramNetwork::distance);
    }

    private void distanceOfMissingStops() {
        sentence("P42", NO_STOP);
        missingStops("distance", TramNetwork::distance);
    }

    private void distanceWithoutAPath() {
        sentence("P42", "Throws `NoSuchElementException` if there is no path");
        nothingFound("distance", TramNetwork::distance);
    }

    private void distanceByRelaxation() {
        sentence("P43", "Returns the same as distance, by relaxing all pairs of adjacent stops until nothing changes.");
        longest("distanceByRelaxation", TramNetwork::distanceByRelaxation);
    }

    private void relaxationOfMissingStops() {
        sentence("P43", NO_STOP);
        missingStops("distanceByRelaxation", TramNetwork::distanceByRelaxation);
    }

    private void relaxationWithoutAPath() {
        sentence("P43", "Throws `NoSuchElementException` if there is no path");
        nothingFound("distanceByRelaxation", TramNetwork::distanceByRelaxation);
    }

    private void changes() {
        sentence("P44", "Returns the number of changes between two stops, by breadth-first search over lines.");
        fewest("changes", TramNetwork::changes);
    }

    private void changesOfMissingStops() {
        sentence("P44", NO_STOP);
        missingStops("changes", TramNetwork::changes);
    }

    private void changesWithoutAJourney() {
        sentence("P44", "Throws `NoSuchElementException` if there is no journey");
        nothingFound("changes", TramNetwork::changes);
    }

    private void changesByGrowth() {
        sentence("P45", "Returns the same as changes, by growing the set of stops that are reachable with 1, 2, 3 and"
            + " more lines.");
        fewest("changesByGrowth", TramNetwork::changesByGrowth);
    }

    private void growthOfMissingStops() {
        sentence("P45", NO_STOP);
        missingStops("changesByGrowth", TramNetwork::changesByGrowth);
    }

    private void growthWithoutAJourney() {
        sentence("P45", "Throws `NoSuchElementException` if there is no journey");
        nothingFound("changesByGrowth", TramNetwork::changesByGrowth);
    }

    private void consistent(Scene scene) {
        answers(scene, "isConsistent()", true, TramNetwork::isConsistent);
        alike("after isConsistent()", scene.portrait(), scene.then("isConsistent()", TramNetwork::isConsistent));
    }

    private void consistentWhenEmptyAndFull() {
        sentence("P51", "Returns whether it is consistent.");
        consistent(Scene.nothing());
        consistent(Scene.stops(1));
        consistent(Scene.full());
        consistent(Scene.town());
        consistent(chain());
        consistent(chainTurned());
    }

    private void consistentWithTruths() {
        sentence("P51", "every secret that is not a truth has a carrier who knows it");
        for (int count = 0; count <= 6; count++) {
            Scene carried = Scene.secrets(count);
            consistent(carried);
            Scene whispered = carried.then("board(0, 0), board(1, 0), whispers", one -> {
                one.board(0, 0);
                one.board(1, 0);
                for (int secret = 0; secret < one.secretCount(); secret += 2) {
                    one.whisper(secret, 0);
                }
            });
            consistent(whispered);
            consistent(whispered.then("alight(0)", one -> one.alight(0)));
            consistent(whispered.then("alight(0), alight(1)", one -> {
                one.alight(0);
                one.alight(1);
            }));
        }
    }

    private void consistentWhereNothingIsFound() {
        sentence("P51", "for all pairs of stops both methods for distances and both methods for changes agree, or"
            + " neither finds anything");
        consistent(Scene.stops(2));
        consistent(Scene.stops(10));
        for (int length = 2; length <= 6; length++) {
            consistent(Scene.lineOf(length));
        }
        for (int lines = 0; lines <= 5; lines++) {
            consistent(Scene.lines(lines));
        }
    }
}

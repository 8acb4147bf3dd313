/** Promises 46 to 50. */
final class BoundsOfLinesOfText extends Bounds {
    private static final String WRITE_LINE = "Writes a line of the network into the line of text, which replaces the"
        + " previous text: its stops with \"-\" between them; for example \"0-3-5\".";
    private static final String WRITE_PASSENGER = "Writes a passenger into the line of text, which replaces the"
        + " previous text: the number of the passenger, \"@\" and the stop, or \">\" and the tram, then \"r\" and the"
        + " number of rides, and \"s\" and the number of each secret that the passenger carries, in ascending order;"
        + " for example \"2>0r4s1s3\".";

    BoundsOfLinesOfText(Check check) {
        super(check);
    }

    @Override
    Runnable[] tests() {
        return new Runnable[] {
            this::shortestAndLongestLine, this::lineReplacesTheText, this::lengthOfALine, this::missingLine,
            this::shortestAndLongestPassenger, this::carriedSecretsOnly, this::passengerReplacesTheText,
            this::lengthOfAPassenger, this::missingPassenger, this::emptyAtFirst, this::firstAndLastCharacter,
            this::missingCharacter, this::meanRides, this::meanOfNobody, this::truthShare, this::shareOfNone,
        };
    }

    private static Scene line(int... stops) {
        return Scene.stops(10).then("a line", one -> {
            one.addLine(stops[0], stops[1]);
            for (int position = 2; position < stops.length; position++) {
                one.extendLine(0, stops[position]);
            }
        });
    }

    private static Scene withLine(int... stops) {
        return line(stops).then("writeLine(0)", one -> one.writeLine(0));
    }

    private void reads(Scene scene, String due) {
        answers(scene, "the line of text", due, Portrait::written);
    }

    private void shortestAndLongestLine() {
        sentence("P46", WRITE_LINE);
        reads(withLine(0, 1), "0-1");
        reads(withLine(9, 0), "9-0");
        reads(withLine(0, 3, 5), "0-3-5");
        reads(withLine(3, 2, 1, 0), "3-2-1-0");
        reads(withLine(4, 5, 6, 7, 8), "4-5-6-7-8");
        reads(withLine(9, 8, 7, 6, 5, 4), "9-8-7-6-5-4");
        for (int line = 0; line < 5; line++) {
            int at = line;
            StringBuilder due = new StringBuilder();
            for (int stop = line; stop <= line + 5; stop++) {
                due.append(stop > line ? "-" : "").append(stop);
            }
            reads(Scene.full().then("writeLine(" + at + ")", one -> one.writeLine(at)), due.toString());
        }
    }

    private void lineReplacesTheText() {
        sentence("P46", WRITE_LINE);
        Scene longer = withLine(9, 8, 7, 6, 5, 4).then("line 1", one -> one.addLine(3, 1));
        Scene shorter = longer.then("writeLine(1)", one -> one.writeLine(1));
        reads(shorter, "3-1");
        throwsOnly(shorter, "textAt(3) behind the shorter text", INDEX, one -> one.textAt(3));
        reads(shorter.then("writeLine(0)", one -> one.writeLine(0)), "9-8-7-6-5-4");
        reads(shorter.then("writeLine(1) again", one -> one.writeLine(1)), "3-1");
        reads(longer.then("extended, but not written again", one -> one.extendLine(1, 2)), "9-8-7-6-5-4");
        Scene passenger = Scene.full().then("writePassenger(7), writeLine(0)", one -> {
            one.writePassenger(7);
            one.writeLine(0);
        });
        reads(passenger, "0-1-2-3-4-5");
    }

    private void lengthOfALine() {
        sentence("P46", "Returns the length of the text.");
        for (int length = 2; length <= 6; length++) {
            answers(Scene.lineOf(length), "writeLine(0)", 2 * length - 1, one -> one.writeLine(0));
        }
    }

    private void missingLine() {
        sentence("P46", "Throws `IndexOutOfBoundsException` if there is no such line");
        numbers("writeLine", Scene::lines, 5, TramNetwork::writeLine);
        refuses(withLine(0, 3, 5), "writeLine(1) over a text", INDEX, one -> one.writeLine(1));
        refuses(withLine(0, 3, 5), "writeLine(-1) over a text", INDEX, one -> one.writeLine(-1));
    }

    /** A passenger, with rides and secrets, at stop 0 where a tram waits. */
    private static Scene passenger(int rides, int secrets) {
        return Scene.passengers(1).then(rides + " rides, " + secrets + " secrets", one -> {
            for (int left = rides; left > 0; left -= 9) {
                one.sellTicket(0, 0, Math.min(left, 9));
            }
            Scene.times(secrets, () -> one.addSecret(0));
        });
    }

    private static Scene written(Scene scene, int passenger) {
        return scene.then("writePassenger(" + passenger + ")", one -> one.writePassenger(passenger));
    }

    private void shortestAndLongestPassenger() {
        sentence("P47", WRITE_PASSENGER);
        reads(written(passenger(0, 0), 0), "0@0r0");
        reads(written(passenger(9, 0), 0), "0@0r9");
        reads(written(passenger(10, 1), 0), "0@0r10s0");
        reads(written(passenger(20, 6), 0), "0@0r20s0s1s2s3s4s5");
        reads(written(passenger(20, 6).then("board(0, 1)", one -> one.board(0, 1)), 0), "0>1r19s0s1s2s3s4s5");
        reads(written(passenger(1, 0).then("board(0, 0)", one -> one.board(0, 0)), 0), "0>0r0");
        reads(written(Scene.full(), 7), "7>5r19s0");
        reads(written(Scene.full(), 0), "0@0r20");
        Scene last = Scene.stops(10).then("a passenger at stop 9", one -> one.addPassenger(9));
        reads(written(last, 0), "0@9r0");
        Scene example = Scene.passengers(3).then("the example of the document", one -> {
            one.sellTicket(2, 0, 5);
            for (int secret = 0; secret < 4; secret++) {
                one.addSecret(secret % 2 == 0 ? 0 : 2);
            }
            one.board(2, 0);
        });
        reads(written(example, 2), "2>0r4s1s3");
    }

    private void carriedSecretsOnly() {
        sentence("P47", WRITE_PASSENGER);
        Scene whispered = Scene.secrets(6).then("passengers 0, 1, 2 board, whispers to 0 and 2", one -> {
            for (int passenger = 0; passenger < 3; passenger++) {
                one.board(passenger, 0);
            }
            one.whisper(5, 0);
            one.whisper(0, 2);
            one.whisper(1, 0);
        });
        reads(written(whispered, 0), "0>0r8s1s5");
        reads(written(whispered, 1), "1>0r8s2s3s4");
        reads(written(whispered, 2), "2>0r8s0");
        Scene truths = whispered.then("alight(1)", one -> one.alight(1));
        reads(written(truths, 1), "1@0r8");
        reads(written(truths, 0), "0>0r8s1s5");
    }

    private void passengerReplacesTheText() {
        sentence("P47", WRITE_PASSENGER);
        Scene longer = written(passenger(20, 6).then("another passenger", one -> one.addPassenger(1)), 0);
        Scene shorter = written(longer, 1);
        reads(shorter, "1@1r0");
        throwsOnly(shorter, "textAt(5) behind the shorter text", INDEX, one -> one.textAt(5));
        reads(written(shorter, 0), "0@0r20s0s1s2s3s4s5");
        Scene line = Scene.full().then("writeLine(0)", one -> one.writeLine(0));
        reads(written(line, 0), "0@0r20");
        reads(longer.then("board(0, 0), but not written again", one -> one.board(0, 0)), "0@0r20s0s1s2s3s4s5");
    }

    private void lengthOfAPassenger() {
        sentence("P47", "Returns the length of the text.");
        for (int rides = 0; rides <= 20; rides++) {
            answers(passenger(rides, 0), "writePassenger(0)", rides < 10 ? 5 : 6, one -> one.writePassenger(0));
        }
        for (int secrets = 0; secrets <= 6; secrets++) {
            answers(passenger(20, secrets), "writePassenger(0)", 6 + 2 * secrets, one -> one.writePassenger(0));
        }
    }

    private void missingPassenger() {
        sentence("P47", "Throws `IndexOutOfBoundsException` if there is no such passenger");
        numbers("writePassenger", Scene::passengers, 8, TramNetwork::writePassenger);
        refuses(written(passenger(20, 6), 0), "writePassenger(1) over a text", INDEX, one -> one.writePassenger(1));
        refuses(written(passenger(20, 6), 0), "writePassenger(-1) over a text", INDEX, one -> one.writePassenger(-1));
    }

    private void emptyAtFirst() {
        sentence("P48", "Returns a character of the line of text, which is empty at first.");
        for (int index = -1; index <= 20; index++) {
            int at = index;
            throwsOnly(Scene.nothing(), "textAt(" + at + ")", INDEX, one -> one.textAt(at));
            throwsOnly(Scene.full(), "textAt(" + at + ") of what was not written", INDEX, one -> one.textAt(at));
        }
    }

    private void firstAndLastCharacter() {
        sentence("P48", "`index`: index of the character, from 0");
        String due = "0@0r20s0s1s2s3s4s5";
        for (int index = 0; index < due.length(); index++) {
            int at = index;
            answers(written(passenger(20, 6), 0), "textAt(" + at + ")", due.charAt(at), one -> one.textAt(at));
        }
        answers(withLine(9, 8, 7, 6, 5, 4), "textAt(0)", '9', one -> one.textAt(0));
        answers(withLine(9, 8, 7, 6, 5, 4), "textAt(10)", '4', one -> one.textAt(10));
    }

    private void missingCharacter() {
        sentence("P48", "Throws `IndexOutOfBoundsException` if there is no such character");
        for (Scene scene : new Scene[] {Scene.nothing(), withLine(0, 1), withLine(9, 8, 7, 6, 5, 4),
            written(passenger(0, 0), 0), written(passenger(20, 6), 0)}) {
            int length = Portrait.written(scene.make()).length();
            for (int index : new int[] {-1, length, length + 1, 18, 32, 256, 65536, Integer.MIN_VALUE,
                Integer.MAX_VALUE}) {
                refuses(scene, "textAt(" + index + ")", INDEX, one -> one.textAt(index));
            }
        }
    }

    private void meanRides() {
        sentence("P49", "Returns the sum of the rides divided by the number of passengers, both converted to double.");
        for (int count = 1; count <= 8; count++) {
            answers(Scene.passengers(count), "meanRides() without rides", 0.0, TramNetwork::meanRides);
            Scene one = Scene.passengers(count).then("1 ride of passenger 0", at -> at.sellTicket(0, 0, 1));
            answers(one, "meanRides()", 1.0 / count, TramNetwork::meanRides);
            int last = count - 1;
            Scene more = one.then("9 rides of the last passenger", at -> at.sellTicket(last, 0, 9));
            answers(more, "meanRides()", 10.0 / count, TramNetwork::meanRides);
        }
        Scene most = Scene.passengers(8).then("20 rides of each", at -> {
            for (int passenger = 0; passenger < 8; passenger++) {
                at.sellTicket(passenger, 0, 9);
                at.sellTicket(passenger, 0, 9);
                at.sellTicket(passenger, 0, 2);
            }
        });
        answers(most, "meanRides()", 20.0, TramNetwork::meanRides);
        answers(Scene.full(), "meanRides() with passengers on trams", (2 * 20 + 6 * 19) / 8.0, TramNetwork::meanRides);
    }

    private void meanOfNobody() {
        sentence("P49", "Throws `ArithmeticException` if there are no passengers");
        refuses(Scene.nothing(), "meanRides()", ARITHMETIC, TramNetwork::meanRides);
        refuses(Scene.passengers(0), "meanRides()", ARITHMETIC, TramNetwork::meanRides);
        refuses(Scene.passengers(1).then("undo", TramNetwork::undo), "meanRides()", ARITHMETIC,
            TramNetwork::meanRides);
        answers(Scene.passengers(1), "meanRides()", 0.0, TramNetwork::meanRides);
    }

    private void truthShare() {
        sentence("P50", "Returns their number divided by the number of secrets, both converted to float.");
        for (int secrets = 1; secrets <= 6; secrets++) {
            for (int truths = 0; truths <= secrets; truths++) {
                int all = secrets;
                int told = truths;
                Scene scene = Scene.secrets(secrets).then(truths + " of them whispered to one who alights", one -> {
                    one.board(0, 0);
                    one.board(1, 0);
                    for (int secret = 0; secret < told; secret++) {
                        one.whisper(all - 1 - secret, 0);
                    }
                    one.alight(0);
                });
                answers(scene, "truthShare()", (float) truths / (float) secrets, TramNetwork::truthShare);
            }
        }
    }

    private void shareOfNone() {
        sentence("P50", "Throws `ArithmeticException` if there are no secrets");
        refuses(Scene.nothing(), "truthShare()", ARITHMETIC, TramNetwork::truthShare);
        refuses(Scene.secrets(0), "truthShare()", ARITHMETIC, TramNetwork::truthShare);
        refuses(Scene.secrets(1).then("undo", TramNetwork::undo), "truthShare()", ARITHMETIC,
            TramNetwork::truthShare);
        answers(Scene.secrets(1), "truthShare()", 0.0f, TramNetwork::truthShare);
    }
}

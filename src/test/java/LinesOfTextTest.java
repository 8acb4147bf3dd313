/** Promises 46 to 50. */
public final class LinesOfTextTest {
    private static final Class<IndexOutOfBoundsException> INDEX = IndexOutOfBoundsException.class;
    private static final Class<ArithmeticException> ARITHMETIC = ArithmeticException.class;

    private static final Check CHECK = new Check();

    public static void main(String[] args) {
        writeLine();
        writePassenger();
        textStays();
        meanRides();
        truthShare();
        CHECK.finish();
    }

    private static String read(TramNetwork network, int length) {
        StringBuilder text = new StringBuilder();
        for (int index = 0; index < length; index++) {
            text.append(network.textAt(index));
        }
        CHECK.refused("P48 textAt(length)", INDEX, () -> network.textAt(length));
        CHECK.refused("P48 textAt(-1)", INDEX, () -> network.textAt(-1));
        CHECK.refused("P48 textAt(max)", INDEX, () -> network.textAt(Integer.MAX_VALUE));
        return text.toString();
    }

    private static TramNetwork withStops(int count) {
        TramNetwork network = new TramNetwork();
        for (int stop = 0; stop < count; stop++) {
            network.addStop(0);
        }
        return network;
    }

    private static void writeLine() {
        TramNetwork network = withStops(10);
        CHECK.same("P48 empty at first", "", read(network, 0));
        network.addLine(0, 3);
        network.extendLine(0, 5);
        network.addLine(9, 8);
        for (int stop = 1; stop < 5; stop++) {
            network.extendLine(1, stop);
        }
        CHECK.same("P46 writeLine(0)", 5, network.writeLine(0));
        CHECK.same("P46 the text", "0-3-5", read(network, 5));
        CHECK.same("P46 writeLine(1)", 11, network.writeLine(1));
        CHECK.same("P46 the text", "9-8-1-2-3-4", read(network, 11));
        CHECK.same("P46 a shorter text", 5, network.writeLine(0));
        CHECK.same("P46 a shorter text", "0-3-5", read(network, 5));
        CHECK.refused("P46 writeLine(2)", INDEX, () -> network.writeLine(2));
        CHECK.refused("P46 writeLine(-1)", INDEX, () -> network.writeLine(-1));
        CHECK.same("P46 a refused call writes nothing", "0-3-5", read(network, 5));
    }

    private static void writePassenger() {
        TramNetwork network = withStops(4);
        network.addLine(3, 2);
        network.addTram(0);
        network.addPassenger(3);
        network.addPassenger(1);
        network.addPassenger(3);
        network.sellTicket(2, 0, 5);
        network.addSecret(0);
        network.addSecret(2);
        network.addSecret(0);
        network.addSecret(2);
        network.board(2, 0);
        CHECK.same("P47 writePassenger(2)", 9, network.writePassenger(2));
        CHECK.same("P47 on a tram", "2>0r4s1s3", read(network, 9));
        CHECK.same("P47 writePassenger(1)", 5, network.writePassenger(1));
        CHECK.same("P47 no secrets", "1@1r0", read(network, 5));
        network.sellTicket(1, 0, 9);
        network.sellTicket(1, 0, 9);
        CHECK.same("P47 writePassenger(1)", 6, network.writePassenger(1));
        CHECK.same("P47 two digits", "1@1r18", read(network, 6));
        CHECK.same("P47 writePassenger(0)", 9, network.writePassenger(0));
        CHECK.same("P47 at a stop", "0@3r0s0s2", read(network, 9));
        network.alight(2);
        CHECK.same("P47 without its truths", 5, network.writePassenger(2));
        CHECK.same("P47 without its truths", "2@3r4", read(network, 5));
        CHECK.refused("P47 writePassenger(3)", INDEX, () -> network.writePassenger(3));
        CHECK.refused("P47 writePassenger(-1)", INDEX, () -> network.writePassenger(-1));
        CHECK.same("P47 a refused call writes nothing", "2@3r4", read(network, 5));
        TramNetwork full = withStops(10);
        full.addPassenger(9);
        full.sellTicket(0, 0, 9);
        full.sellTicket(0, 0, 9);
        full.sellTicket(0, 0, 2);
        for (int secret = 0; secret < 6; secret++) {
            full.addSecret(0);
        }
        CHECK.same("P47 the longest text", 18, full.writePassenger(0));
        CHECK.same("P47 the longest text", "0@9r20s0s1s2s3s4s5", read(full, 18));
    }

    private static void textStays() {
        TramNetwork network = withStops(2);
        network.addLine(1, 0);
        network.save();
        network.addPassenger(0);
        CHECK.same("P47 writePassenger", 5, network.writePassenger(0));
        network.undo();
        CHECK.same("P48 an undo keeps the text", "0@0r0", read(network, 5));
        network.restore();
        CHECK.same("P48 a restore keeps the text", "0@0r0", read(network, 5));
        network.addPassenger(1);
        network.tick();
        CHECK.same("P48 a later change keeps the text", "0@0r0", read(network, 5));
    }

    private static void meanRides() {
        TramNetwork network = withStops(2);
        CHECK.refused("P49 no passengers", ARITHMETIC, network::meanRides);
        network.addPassenger(0);
        CHECK.exact("P49 no rides", 0.0, network.meanRides());
        network.sellTicket(0, 0, 7);
        CHECK.exact("P49 one passenger", 7.0, network.meanRides());
        network.addPassenger(1);
        network.addPassenger(1);
        CHECK.exact("P49 three passengers", 7.0 / 3.0, network.meanRides());
        network.sellTicket(2, 3, 4);
        CHECK.exact("P49 two tickets", 11.0 / 3.0, network.meanRides());
    }

    private static void truthShare() {
        TramNetwork network = withStops(3);
        network.addLine(0, 1);
        network.addTram(0);
        network.addPassenger(0);
        network.addPassenger(0);
        network.sellTicket(0, 0, 9);
        CHECK.refused("P50 no secrets", ARITHMETIC, network::truthShare);
        network.addSecret(0);
        network.addSecret(1);
        CHECK.exact("P50 no truths", 0.0f, network.truthShare());
        network.board(0, 0);
        network.alight(0);
        CHECK.exact("P50 a half", 0.5f, network.truthShare());
        network.addSecret(1);
        CHECK.exact("P50 a third", 1.0f / 3.0f, network.truthShare());
    }
}

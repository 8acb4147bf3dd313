import java.util.NoSuchElementException;

/** Promises 34 to 41. */
public final class SecretsTest {
    private static final Class<IndexOutOfBoundsException> INDEX = IndexOutOfBoundsException.class;
    private static final Class<IllegalStateException> STATE = IllegalStateException.class;
    private static final Class<NoSuchElementException> ELEMENT = NoSuchElementException.class;
    private static final Class<UnsupportedOperationException> UNSUPPORTED = UnsupportedOperationException.class;

    private static final Check CHECK = new Check();

    public static void main(String[] args) {
        addSecret();
        whispering();
        everyoneOnTheTramHears();
        refusedWhispers();
        truths();
        wisest();
        missing();
        CHECK.finish();
    }

    /** Line 0 is 0-1-2 with trams 0 and 1; passengers 0 to 4 at stop 0, each with rides in every zone. */
    private static TramNetwork company() {
        TramNetwork network = new TramNetwork();
        for (int stop = 0; stop < 3; stop++) {
            network.addStop(stop);
        }
        network.addLine(0, 1);
        network.extendLine(0, 2);
        network.addTram(0);
        network.addTram(0);
        for (int passenger = 0; passenger < 5; passenger++) {
            network.addPassenger(0);
            for (int zone = 0; zone < 4; zone++) {
                network.sellTicket(passenger, zone, 5);
            }
        }
        return network;
    }

    private static void addSecret() {
        TramNetwork network = company();
        CHECK.refused("P34 no such passenger", INDEX, () -> network.addSecret(5));
        CHECK.refused("P34 no such passenger", INDEX, () -> network.addSecret(-1));
        for (int secret = 0; secret < 6; secret++) {
            CHECK.same("P36 secretCount", secret, network.secretCount());
            CHECK.same("P34 addSecret", secret, network.addSecret(secret % 4));
            CHECK.same("P37 carrierOf", secret % 4, network.carrierOf(secret));
            CHECK.no("P38 isTruth", network.isTruth(secret));
            CHECK.same("P40 knowerCount", 1, network.knowerCount(secret));
            for (int passenger = 0; passenger < 5; passenger++) {
                CHECK.same("P39 knows", passenger == secret % 4 ? 1 : 0, network.knows(passenger, secret) ? 1 : 0);
            }
        }
        CHECK.refused("P34 a seventh secret", STATE, () -> network.addSecret(0));
        CHECK.refused("P34 the missing passenger comes first", INDEX, () -> network.addSecret(5));
        CHECK.same("P36 secretCount", 6, network.secretCount());
    }

    private static void whispering() {
        TramNetwork network = company();
        network.addSecret(0);
        network.addSecret(0);
        network.board(0, 0);
        network.board(1, 0);
        network.board(2, 0);
        network.board(3, 1);
        CHECK.same("P35 whisper", 3, network.whisper(0, 1));
        CHECK.same("P37 carrierOf", 1, network.carrierOf(0));
        CHECK.yes("P39 the old carrier", network.knows(0, 0));
        CHECK.yes("P39 the new carrier", network.knows(1, 0));
        CHECK.yes("P39 another on the tram", network.knows(2, 0));
        CHECK.no("P39 on another tram", network.knows(3, 0));
        CHECK.no("P39 at the stop", network.knows(4, 0));
        CHECK.same("P40 knowerCount", 3, network.knowerCount(0));
        CHECK.same("P37 the other secret", 0, network.carrierOf(1));
        CHECK.no("P39 the other secret", network.knows(1, 1));
        CHECK.same("P40 the other secret", 1, network.knowerCount(1));
        network.board(4, 0);
        CHECK.no("P39 who boards later", network.knows(4, 0));
        CHECK.same("P35 back again", 4, network.whisper(0, 0));
        CHECK.yes("P39 who boarded later", network.knows(4, 0));
        network.alight(0);
        network.alight(2);
        CHECK.yes("P39 knowledge is never lost", network.knows(2, 0));
        CHECK.same("P40 knowledge is never lost", 4, network.knowerCount(0));
    }

    private static void everyoneOnTheTramHears() {
        TramNetwork network = company();
        network.addSecret(2);
        for (int passenger = 0; passenger < 5; passenger++) {
            network.board(passenger, 1);
        }
        CHECK.same("P35 whisper", 5, network.whisper(0, 3));
        for (int passenger = 0; passenger < 5; passenger++) {
            CHECK.yes("P39 everyone on the tram", network.knows(passenger, 0));
        }
    }

    private static void refusedWhispers() {
        TramNetwork network = company();
        network.addSecret(0);
        CHECK.refused("P35 no such secret", INDEX, () -> network.whisper(1, 1));
        CHECK.refused("P35 no such secret", INDEX, () -> network.whisper(-1, 1));
        CHECK.refused("P35 no such listener", INDEX, () -> network.whisper(0, 5));
        CHECK.refused("P35 no such listener", INDEX, () -> network.whisper(0, -1));
        CHECK.refused("P35 both at a stop", UNSUPPORTED, () -> network.whisper(0, 1));
        CHECK.refused("P35 to the carrier at a stop", UNSUPPORTED, () -> network.whisper(0, 0));
        network.board(1, 0);
        CHECK.refused("P35 the carrier at a stop", UNSUPPORTED, () -> network.whisper(0, 1));
        network.board(0, 1);
        CHECK.refused("P35 on two trams", UNSUPPORTED, () -> network.whisper(0, 1));
        CHECK.refused("P35 the listener at a stop", UNSUPPORTED, () -> network.whisper(0, 2));
        CHECK.refused("P35 to the carrier", UNSUPPORTED, () -> network.whisper(0, 0));
        CHECK.same("P35 a refused whisper changes nothing", 0, network.carrierOf(0));
        CHECK.same("P35 a refused whisper changes nothing", 1, network.knowerCount(0));
        network.alight(0);
        CHECK.refused("P35 a truth", STATE, () -> network.whisper(0, 1));
        CHECK.refused("P35 a truth, and no such listener", INDEX, () -> network.whisper(0, 5));
    }

    private static void truths() {
        TramNetwork network = company();
        network.addSecret(0);
        network.addSecret(1);
        network.addSecret(0);
        network.board(0, 0);
        network.board(1, 0);
        network.tick();
        network.alight(0);
        CHECK.no("P38 not at a terminus", network.isTruth(0));
        CHECK.same("P37 carrierOf", 0, network.carrierOf(0));
        network.board(0, 0);
        network.tick();
        network.alight(0);
        CHECK.yes("P38 at a terminus", network.isTruth(0));
        CHECK.yes("P38 at a terminus", network.isTruth(2));
        CHECK.no("P38 carried by another", network.isTruth(1));
        CHECK.same("P37 a truth", -1, network.carrierOf(0));
        CHECK.same("P37 carried by another", 1, network.carrierOf(1));
        CHECK.yes("P39 who knew it", network.knows(0, 0));
        CHECK.no("P39 who knew it not", network.knows(1, 0));
        CHECK.same("P40 a truth", 1, network.knowerCount(0));
        CHECK.same("P36 truths included", 3, network.secretCount());
        CHECK.same("P34 a new secret at a terminus", 3, network.addSecret(0));
        CHECK.no("P38 a new secret at a terminus", network.isTruth(3));
        network.addLine(1, 0);
        network.tick();
        network.addSecret(1);
        network.alight(1);
        CHECK.yes("P38 a terminus of another line", network.isTruth(1));
        CHECK.yes("P38 a terminus of another line", network.isTruth(4));
    }

    private static void order(TramNetwork network, int... due) {
        for (int rank = 0; rank < due.length; rank++) {
            CHECK.same("P41 wisestPassenger(" + rank + ")", due[rank], network.wisestPassenger(rank));
        }
    }

    private static void wisest() {
        TramNetwork network = company();
        order(network, 0, 1, 2, 3, 4);
        network.addSecret(3);
        order(network, 3, 0, 1, 2, 4);
        network.addSecret(4);
        network.addSecret(4);
        order(network, 4, 3, 0, 1, 2);
        network.board(4, 0);
        network.board(1, 0);
        network.whisper(1, 1);
        order(network, 4, 1, 3, 0, 2);
        network.whisper(2, 1);
        order(network, 1, 4, 3, 0, 2);
        network.alight(1);
        order(network, 1, 4, 3, 0, 2);
        CHECK.refused("P41 rank 5", ELEMENT, () -> network.wisestPassenger(5));
        CHECK.refused("P41 rank -1", ELEMENT, () -> network.wisestPassenger(-1));
        CHECK.refused("P41 nobody", ELEMENT, () -> new TramNetwork().wisestPassenger(0));
    }

    private static void missing() {
        TramNetwork network = company();
        network.addSecret(0);
        for (int secret : new int[] {-1, 1, 6, Integer.MIN_VALUE, Integer.MAX_VALUE}) {
            CHECK.refused("P37 carrierOf", INDEX, () -> network.carrierOf(secret));
            CHECK.refused("P38 isTruth", INDEX, () -> network.isTruth(secret));
            CHECK.refused("P39 no such secret", INDEX, () -> network.knows(0, secret));
            CHECK.refused("P40 knowerCount", INDEX, () -> network.knowerCount(secret));
        }
        CHECK.refused("P39 no such passenger", INDEX, () -> network.knows(5, 0));
        CHECK.refused("P39 no such passenger", INDEX, () -> network.knows(-1, 0));
    }
}

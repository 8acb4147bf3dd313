import java.util.List;
import java.util.function.Consumer;
import java.util.function.Supplier;

/** The same calls on a new object each time, so that a test can put several questions to the same network. */
final class Scene {
    private final String name;
    private final Supplier<TramNetwork> maker;
    private List<String> portrait;

    private Scene(String name, Supplier<TramNetwork> maker) {
        this.name = name;
        this.maker = maker;
    }

    TramNetwork make() {
        return maker.get();
    }

    Scene then(String calls, Consumer<TramNetwork> more) {
        return new Scene(name + ", " + calls, () -> {
            TramNetwork network = make();
            more.accept(network);
            return network;
        });
    }

    Scene thenText(String text) {
        return then("'" + text + "' typed", network -> typing(network, text));
    }

    /** What calls can answer about the network; it is asked for often, and is the same each time. */
    List<String> portrait() {
        if (portrait == null) {
            portrait = Portrait.of(this);
        }
        return portrait;
    }

    @Override
    public String toString() {
        return name;
    }

    static void typing(TramNetwork network, String text) {
        for (int index = 0; index < text.length(); index++) {
            network.type(text.charAt(index));
        }
    }

    static void executing(TramNetwork network, String text) {
        typing(network, text);
        network.execute();
    }

    /** For texts that are due to be refused. */
    static void executingInVain(TramNetwork network, String text) {
        typing(network, text);
        try {
            network.execute();
        } catch (IllegalArgumentException | IllegalStateException e) {
            return;
        }
        throw new IllegalStateException("'" + text + "' is executed");
    }

    static void times(int count, Runnable call) {
        for (int index = 0; index < count; index++) {
            call.run();
        }
    }

    static Scene nothing() {
        return new Scene("a new object", TramNetwork::new);
    }

    /** Stop s is in zone s modulo 4. */
    static Scene stops(int count) {
        return new Scene(count + " stops", () -> {
            TramNetwork network = new TramNetwork();
            for (int stop = 0; stop < count; stop++) {
                network.addStop(stop % 4);
            }
            return network;
        });
    }

    /** Ten stops, and line l from stop l to stop l + 1. */
    static Scene lines(int count) {
        return stops(10).then(count + " lines", network -> {
            for (int line = 0; line < count; line++) {
                network.addLine(line, line + 1);
            }
        });
    }

    /** Ten stops, and line 0 over the stops from 0 in their order. */
    static Scene lineOf(int length) {
        return lines(1).then("line 0 of " + length + " stops", network -> {
            for (int stop = 2; stop < length; stop++) {
                network.extendLine(0, stop);
            }
        });
    }

    /** Line 0 is 0-1-2, line 1 is 4-5; the trams are on line 0. */
    static Scene trams(int count) {
        return lineOf(3).then("line 1 of stops 4 and 5, " + count + " trams", network -> {
            network.addLine(4, 5);
            times(count, () -> network.addTram(0));
        });
    }

    /** As above, with two trams; the passengers are at stop 0 and have no tickets. */
    static Scene passengers(int count) {
        return trams(2).then(count + " passengers", network -> times(count, () -> network.addPassenger(0)));
    }

    /** As above, with three passengers, who have 9 rides in zone 0; passenger 1 carries the secrets. */
    static Scene secrets(int count) {
        return passengers(3).then("with tickets, " + count + " secrets", network -> {
            for (int passenger = 0; passenger < 3; passenger++) {
                network.sellTicket(passenger, 0, 9);
            }
            times(count, () -> network.addSecret(1));
        });
    }

    /**
     * Something of everything: trams under way in both directions, passengers at stops and on trams, one who can
     * transfer, secrets and a truth, a text in the buffer, a line of text, an error position, a failed command, a
     * snapshot of another state, and four modifications that can be undone.
     */
    static Scene town() {
        return new Scene("a town", () -> {
            TramNetwork network = new TramNetwork();
            for (int zone : new int[] {0, 1, 2, 3, 0, 1}) {
                network.addStop(zone);
            }
            network.addLine(0, 1);
            network.extendLine(0, 2);
            network.extendLine(0, 3);
            network.addLine(2, 1);
            network.extendLine(1, 4);
            network.addLine(4, 0);
            for (int line : new int[] {0, 1, 2, 0}) {
                network.addTram(line);
            }
            for (int stop : new int[] {0, 0, 0, 0, 4, 2}) {
                network.addPassenger(stop);
            }
            for (int passenger = 0; passenger < 4; passenger++) {
                network.sellTicket(passenger, 0, 2 + passenger);
            }
            network.sellTicket(5, 2, 1);
            network.sellTicket(5, 3, 9);
            network.sellTicket(5, 3, 9);
            network.board(0, 0);
            network.board(1, 0);
            network.board(2, 3);
            network.board(3, 3);
            network.board(5, 1);
            network.addSecret(0);
            network.addSecret(2);
            network.addSecret(5);
            network.alight(2);
            network.whisper(0, 1);
            executingInVain(network, "tick;tack");
            executingInVain(network, "tick;stop 9");
            network.writePassenger(1);
            network.save();
            network.restore();
            network.tick();
            network.alight(3);
            network.alight(5);
            network.sellTicket(4, 1, 3);
            typing(network, "tick;ti");
            return network;
        });
    }

    /** As much of everything as there can be; line l goes from stop l to stop l + 5. */
    static Scene full() {
        return new Scene("a full network", () -> {
            TramNetwork network = new TramNetwork();
            for (int stop = 0; stop < 10; stop++) {
                network.addStop(stop % 4);
            }
            for (int line = 0; line < 5; line++) {
                network.addLine(line, line + 1);
                for (int position = 2; position < 6; position++) {
                    network.extendLine(line, line + position);
                }
            }
            for (int tram = 0; tram < 6; tram++) {
                network.addTram(tram % 5);
            }
            for (int passenger = 0; passenger < 8; passenger++) {
                network.addPassenger(0);
                network.sellTicket(passenger, 0, 9);
                network.sellTicket(passenger, 0, 9);
                network.sellTicket(passenger, 0, 2);
            }
            for (int secret = 0; secret < 6; secret++) {
                network.addSecret(7 - secret);
            }
            for (int passenger = 2; passenger < 8; passenger++) {
                network.board(passenger, passenger % 2 == 0 ? 0 : 5);
            }
            network.whisper(5, 4);
            network.save();
            network.tick();
            typing(network, "stop 0;stop 0;stop 0;stop 0;stop 0;stop 0;stop 0;stop 0;tick");
            return network;
        });
    }
}

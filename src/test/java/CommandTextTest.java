import java.util.NoSuchElementException;

/** Promises 52 to 55. */
public final class CommandTextTest {
    private static final Class<IllegalArgumentException> ARGUMENT = IllegalArgumentException.class;
    private static final Class<IllegalStateException> STATE = IllegalStateException.class;
    private static final Class<NoSuchElementException> ELEMENT = NoSuchElementException.class;

    private static final Check CHECK = new Check();

    public static void main(String[] args) {
        type();
        everyCommand();
        malformedTexts();
        tooEarlyAtTheLimit();
        afterALongerText();
        failingCommands();
        everyFailingCommand();
        storedPositions();
        CHECK.finish();
    }

    private static TramNetwork typing(TramNetwork network, String text) {
        for (int index = 0; index < text.length(); index++) {
            network.type(text.charAt(index));
        }
        return network;
    }

    private static void succeeds(TramNetwork network, String text, int commands) {
        typing(network, text);
        CHECK.same("P53 execute of '" + text + "'", commands, network.execute());
    }

    private static void malformed(String text, int position) {
        TramNetwork network = new TramNetwork();
        typing(network, text);
        CHECK.refused("P53 execute of '" + text + "'", ARGUMENT, network::execute);
        CHECK.same("P54 errorPosition of '" + text + "'", position, network.errorPosition());
        CHECK.same("P53 the buffer is empty afterwards", 1, network.type('x'));
        CHECK.same("P53 nothing is executed", 0, network.stopCount() + network.tickCount());
        CHECK.refused("P53 nothing to undo", STATE, network::undo);
        CHECK.refused("P55 no command failed", ELEMENT, network::failedCommand);
    }

    private static void fails(TramNetwork network, String text, int index) {
        typing(network, text);
        CHECK.refused("P53 execute of '" + text + "'", STATE, network::execute);
        CHECK.same("P55 failedCommand of '" + text + "'", index, network.failedCommand());
        CHECK.same("P53 the buffer is empty afterwards", 1, network.type('x'));
        CHECK.refused("P53 the rest of the buffer", ARGUMENT, network::execute);
    }

    private static void type() {
        TramNetwork network = new TramNetwork();
        CHECK.refused("P52 character 31", ARGUMENT, () -> network.type((char) 31));
        CHECK.refused("P52 character 127", ARGUMENT, () -> network.type((char) 127));
        CHECK.refused("P52 character 0", ARGUMENT, () -> network.type((char) 0));
        CHECK.refused("P52 character 65535", ARGUMENT, () -> network.type((char) 65535));
        CHECK.same("P52 character 32", 1, network.type((char) 32));
        CHECK.same("P52 character 126", 2, network.type((char) 126));
        for (int length = 3; length <= 60; length++) {
            CHECK.same("P52 type", length, network.type('a'));
        }
        CHECK.refused("P52 the buffer is full", STATE, () -> network.type('a'));
        CHECK.refused("P52 the character comes first", ARGUMENT, () -> network.type((char) 127));
        CHECK.refused("P53 malformed", ARGUMENT, network::execute);
        CHECK.same("P52 emptied", 1, network.type('a'));
        CHECK.refused("P52 undo", STATE, network::undo);
    }

    private static void everyCommand() {
        TramNetwork network = new TramNetwork();
        succeeds(network, "stop 2;stop 1;stop 0;line 0 1;extend 0 2;tram 0", 6);
        CHECK.same("P53 stop", 3, network.stopCount());
        CHECK.same("P53 stop", 2, network.zoneOf(0));
        CHECK.same("P53 line", 0, network.stopAt(0, 0));
        CHECK.same("P53 line", 1, network.stopAt(0, 1));
        CHECK.same("P53 extend", 2, network.stopAt(0, 2));
        CHECK.same("P53 tram", 0, network.lineOfTram(0));
        succeeds(network, "rider 0;rider 0;ticket 0 2 3;ticket 1 2 1;board 0 0", 5);
        CHECK.same("P53 rider", 2, network.passengerCount());
        CHECK.yes("P53 ticket", network.isValidIn(0, 2));
        CHECK.same("P53 ticket and board", 2, network.ridesOf(0));
        CHECK.same("P53 board", 0, network.tramOfPassenger(0));
        succeeds(network, "board 1 0;secret 0;tick;whisper 0 1;alight 0", 5);
        CHECK.same("P53 secret", 1, network.secretCount());
        CHECK.same("P53 tick", 1, network.tickCount());
        CHECK.same("P53 whisper", 1, network.carrierOf(0));
        CHECK.same("P53 whisper", 2, network.knowerCount(0));
        CHECK.same("P53 alight", 1, network.stopOfPassenger(0));
        succeeds(network, "tick", 1);
        CHECK.same("P53 tick", 2, network.tickCount());
        CHECK.refused("P54 no text was malformed", ELEMENT, network::errorPosition);
        CHECK.refused("P55 no command failed", ELEMENT, network::failedCommand);
        succeeds(network, "tick;tick;tick;tick;tick;tick;tick;tick;tick;tick;tick;tick", 12);
        CHECK.same("P53 tick", 14, network.tickCount());
    }

    private static void malformedTexts() {
        malformed("", 0);
        malformed(" ", 0);
        malformed(";", 0);
        malformed(" tick", 0);
        malformed("Tick", 0);
        malformed("xtick", 0);
        malformed("s", 1);
        malformed("st", 2);
        malformed("sx", 1);
        malformed("se", 2);
        malformed("sec", 3);
        malformed("stap 1", 2);
        malformed("sto", 3);
        malformed("stop", 4);
        malformed("stop1", 4);
        malformed("stop ", 5);
        malformed("stop  1", 5);
        malformed("stop x", 5);
        malformed("stop /", 5);
        malformed("stop :", 5);
        malformed("stop 12", 6);
        malformed("stop 1 ", 6);
        malformed("stop 1;", 7);
        malformed("stop 1;;", 7);
        malformed("stop 1; stop 1", 7);
        malformed("stop 1,stop 1", 6);
        malformed("stop 1 2", 6);
        malformed("stop -1", 5);
        malformed("t", 1);
        malformed("ti", 2);
        malformed("tic", 3);
        malformed("tac", 1);
        malformed("tr", 2);
        malformed("trim 0", 2);
        malformed("ticke", 5);
        malformed("ticked", 5);
        malformed("ticke;", 5);
        malformed("ticks", 4);
        malformed("tick ", 4);
        malformed("tick 0", 4);
        malformed("tick;", 5);
        malformed("tick;tick;", 10);
        malformed("tick;tack", 6);
        malformed("ticket", 6);
        malformed("ticket;", 6);
        malformed("ticket 0 1", 10);
        malformed("ticket 0 1;", 10);
        malformed("ticket 0 1 ", 11);
        malformed("ticket 0 1 x", 11);
        malformed("ticket 0 1 2 3", 12);
        malformed("line 0", 6);
        malformed("line 0 1 2", 8);
        malformed("extend 0", 8);
        malformed("extent 0 1", 5);
        malformed("tram 0 1", 6);
        malformed("rider", 5);
        malformed("board 0", 7);
        malformed("board 0;1", 7);
        malformed("alight", 6);
        malformed("alike", 3);
        malformed("secret", 6);
        malformed("whisper 0", 9);
        malformed("whisper 0 x", 10);
        malformed("stop 0;stop 9;tram 0;bord 0 0", 23);
    }

    private static void tooEarlyAtTheLimit() {
        malformed("tick;tick;tick;tick;tick;tick;tick;tick;tick;tick;tick;tick;", 60);
        malformed("tick;tick;tick;tick;tick;tick;tick;tick;tick;tick;tick;tic;t", 58);
        malformed("stop 0;stop 0;stop 0;stop 0;stop 0;stop 0;stop 0;stop 0;stop", 60);
        malformed("stop 0;stop 0;stop 0;stop 0;stop 0;stop 0;stop 0;line 0 1;st", 60);
        malformed("extend 0 1;extend 0 2;extend 0 3;extend 0 4;extend 0 5;tick ", 59);
    }

    /** Characters of an earlier text are no part of a later one. */
    private static void afterALongerText() {
        TramNetwork network = new TramNetwork();
        succeeds(network, "stop 1;tick", 2);
        String[] shorter = {"stop ", "stop", "sto", "stop 1;", "stop 1;tic"};
        for (String text : shorter) {
            CHECK.refused("P53 '" + text + "'", ARGUMENT, typing(network, text)::execute);
            CHECK.same("P54 errorPosition of '" + text + "'", text.length(), network.errorPosition());
            succeeds(network, "stop 1;tick", 2);
        }
        succeeds(network, "stop 1", 1);
        CHECK.same("P53 tickCount", 6, network.tickCount());
    }

    private static void failingCommands() {
        TramNetwork network = new TramNetwork();
        fails(network, "stop 4", 0);
        fails(network, "stop 0;stop 1;line 0 1;line 1 1", 3);
        CHECK.same("P53 the stops are taken back", 0, network.stopCount());
        CHECK.same("P53 the lines are taken back", 0, network.lineCount());
        succeeds(network, "stop 0;stop 1;line 0 1;tram 0;rider 0;ticket 0 0 2", 6);
        fails(network, "secret 0;board 0 0;tick;tick;alight 0;alight 0;stop 0", 5);
        CHECK.same("P53 the secret is taken back", 0, network.secretCount());
        CHECK.same("P53 the ticks are taken back", 0, network.tickCount());
        CHECK.same("P53 the boarding is taken back", -1, network.tramOfPassenger(0));
        CHECK.same("P53 the boarding is taken back", 0, network.stopOfPassenger(0));
        CHECK.same("P53 the ride is taken back", 2, network.ridesOf(0));
        CHECK.no("P53 the alighting is taken back", network.isTransfer(0, 0));
        CHECK.same("P53 the trams are taken back", 0, network.stopOfTram(0));
        CHECK.yes("P53 the trams are taken back", network.isForward(0));
        CHECK.same("P53 the text before can be undone", 0, network.undo());
        CHECK.same("P53 the text is one modification", 0, network.stopCount());
    }

    /** One text for each command, and for each kind of exception that its method throws. */
    private static void everyFailingCommand() {
        String[] failing = {
            "stop 4", "line 0 9", "line 0 0", "extend 1 0", "extend 0 9", "extend 0 1", "tram 1", "rider 9",
            "ticket 9 0 1", "ticket 0 4 1", "ticket 0 0 0", "board 9 0", "board 0 9", "board 1 0", "board 0 0",
            "board 2 0", "alight 9", "alight 0", "secret 9", "whisper 9 0", "whisper 0 9", "whisper 0 1",
            "whisper 0 0", "whisper 1 1",
        };
        for (String text : failing) {
            TramNetwork network = new TramNetwork();
            typing(network, "stop 0;stop 1;line 0 1;tram 0;rider 0;rider 1;rider 0").execute();
            typing(network, "ticket 1 0 9;ticket 2 0 9;board 2 0;secret 0;secret 2").execute();
            typing(network, "alight 2;board 2 0;stop 3").execute();
            fails(network, text, 0);
            fails(network, "tick;tick;stop 0;" + text + ";stop 0", 3);
            CHECK.same("P53 nothing is left", 3, network.stopCount());
            CHECK.same("P53 nothing is left", 0, network.tickCount());
        }
        for (String command : new String[] {"stop 0", "tram 0", "rider 0", "secret 0"}) {
            int most = "stop 0".equals(command) ? 10 : "rider 0".equals(command) ? 8 : 6;
            int first = "stop 0".equals(command) ? 2 : "rider 0".equals(command) ? 1 : 0;
            TramNetwork network = new TramNetwork();
            typing(network, "stop 0;stop 0;line 0 1;rider 0").execute();
            for (int count = first; count < most; count++) {
                succeeds(network, command, 1);
            }
            fails(network, "tick;" + command, 1);
        }
        TramNetwork lines = new TramNetwork();
        typing(lines, "stop 0;stop 0;line 0 1;line 0 1;line 0 1;line 0 1").execute();
        fails(lines, "line 0 1;line 0 1", 1);
        typing(lines, "stop 0;stop 0;stop 0;stop 0;stop 0").execute();
        typing(lines, "extend 0 2;extend 0 3;extend 0 4;extend 0 5").execute();
        fails(lines, "extend 0 6", 0);
        TramNetwork rides = new TramNetwork();
        typing(rides, "stop 0;rider 0;ticket 0 0 9;ticket 0 0 9").execute();
        fails(rides, "ticket 0 0 2;ticket 0 0 1", 1);
    }

    private static void storedPositions() {
        TramNetwork network = new TramNetwork();
        CHECK.refused("P54 no text was malformed", ELEMENT, network::errorPosition);
        CHECK.refused("P55 no command failed", ELEMENT, network::failedCommand);
        network.save();
        network.tick();
        CHECK.refused("P53 malformed", ARGUMENT, typing(network, "stop")::execute);
        CHECK.refused("P53 failing", STATE, typing(network, "tick;tick;stop 7")::execute);
        succeeds(network, "stop 1", 1);
        CHECK.same("P54 a later text keeps it", 4, network.errorPosition());
        CHECK.same("P55 a later text keeps it", 2, network.failedCommand());
        CHECK.refused("P53 malformed", ARGUMENT, typing(network, "stop x")::execute);
        CHECK.same("P54 the last malformed text", 5, network.errorPosition());
        CHECK.same("P55 a malformed text keeps it", 2, network.failedCommand());
        CHECK.refused("P53 failing", STATE, typing(network, "line 8 8")::execute);
        CHECK.same("P55 the last failing text", 0, network.failedCommand());
        CHECK.same("P54 a failing text keeps it", 5, network.errorPosition());
        network.undo();
        network.undo();
        CHECK.same("P54 an undo keeps it", 5, network.errorPosition());
        CHECK.same("P55 an undo keeps it", 0, network.failedCommand());
        network.restore();
        CHECK.same("P54 a restore keeps it", 5, network.errorPosition());
        CHECK.same("P55 a restore keeps it", 0, network.failedCommand());
    }
}

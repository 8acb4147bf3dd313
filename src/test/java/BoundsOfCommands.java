/** Promises 52 to 55, and what "Terms" says of texts. */
final class BoundsOfCommands extends Bounds {
    private static final String GRAMMAR = "A command text has the following grammar, with terminals in quotes: text ="
        + " command { \";\" command }; command = \"stop\" d | \"line\" d d | \"extend\" d d | \"tram\" d | \"rider\" d"
        + " | \"ticket\" d d d | \"board\" d d | \"alight\" d | \"secret\" d | \"whisper\" d d | \"tick\"; d is a blank"
        + " and a decimal digit.";
    private static final String STAND_FOR = "The commands stand for addStop, addLine, extendLine, addTram,"
        + " addPassenger, sellTicket, board, alight, addSecret, whisper and tick, with their parameters in order.";
    private static final String POSITION = "The error position of a malformed text is the index of its first character"
        + " that cannot continue any valid text, or its length if it ends too early.";
    private static final String EXECUTES = "Executes the text in the buffer, which is empty afterwards.";
    private static final String ALL_OR_NONE = "The commands are executed in order, all of them or none: if a command"
        + " fails, the effects of the commands before it are taken back.";
    private static final String MALFORMED = "Throws `IllegalArgumentException` if the text is malformed; its error"
        + " position is stored";
    private static final String FAILS = "Throws `IllegalStateException` if a command fails; its index is stored";

    // The commands, with # for a digit.
    private static final String[] COMMANDS = {"stop #", "line # #", "extend # #", "tram #", "rider #", "ticket # # #",
        "board # #", "alight #", "secret #", "whisper # #", "tick"};
    private static final String TWELVE_TICKS = "tick;tick;tick;tick;tick;tick;tick;tick;tick;tick;tick;tick";

    BoundsOfCommands(Check check) {
        super(check);
    }

    @Override
    Runnable[] tests() {
        return new Runnable[] {
            this::atMostSixtyCharacters, this::everyCommandAlone, this::everyDigit, this::oneToTwelveCommands,
            this::everyCharacterBehindEveryBeginning, this::everyMethodHasItsCommand, this::parametersInOrder,
            this::positionOfTheFirstWrongCharacter, this::endsTooEarly, this::nothingOfAnEarlierText,
            this::appendedCharacters, this::characterOutOfRange, this::sixtyOneCharacters, this::emptyAfterwards,
            this::allOfThem, this::noneOfThem, this::failsWhereItsMethodThrows, this::numberOfCommands,
            this::malformedText, this::failingText, this::failingTextKeepsWhatCanBeUndone, this::errorPosition,
            this::noTextMalformed, this::failedCommand, this::firstAndLastFailingCommand, this::noCommandFailed,
        };
    }

    private static String filled(int length, char character) {
        StringBuilder text = new StringBuilder();
        while (text.length() < length) {
            text.append(character);
        }
        return text.toString();
    }

    private static String digits(String command, char digit) {
        return command.replace('#', digit);
    }

    /** Whether the text is a command, or the beginning of one. */
    private static boolean begins(String text, boolean whole) {
        for (String command : COMMANDS) {
            if (begins(command, text) && (!whole || command.length() == text.length())) {
                return true;
            }
        }
        return false;
    }

    private static boolean begins(String command, String text) {
        if (text.length() > command.length()) {
            return false;
        }
        for (int index = 0; index < text.length(); index++) {
            char due = command.charAt(index);
            char got = text.charAt(index);
            if (due == '#' ? got < '0' || got > '9' : got != due) {
                return false;
            }
        }
        return true;
    }

    private void malformed(String text, int position) {
        answers(Scene.nothing().thenText(text), "execute(), errorPosition()", "IllegalArgumentException at " + position,
            one -> outcome(one, TramNetwork::execute) + " at " + outcome(one, TramNetwork::errorPosition));
    }

    /** Executed, or failing; but not malformed. */
    private void wellFormed(Scene scene, String text) {
        Scene typed = scene.thenText(text);
        throwsOnly(typed.then("execute()", one -> outcome(one, TramNetwork::execute)), "errorPosition()", ELEMENT,
            TramNetwork::errorPosition);
    }

    private void atMostSixtyCharacters() {
        sentence("Terms", "Characters are collected in a buffer of at most 60 characters.");
        answers(Scene.nothing().thenText(filled(59, 'x')), "the 60th character: type('x')", 60, one -> one.type('x'));
        throwsOnly(Scene.nothing().thenText(filled(60, 'x')), "the 61st character: type('x')", STATE,
            one -> one.type('x'));
        Scene sixty = Scene.nothing().thenText("stop 0;stop 0;stop 0;stop 0;stop 0;stop 0;stop 0;stop 0;tick");
        answers(sixty, "execute() of 60 characters", 9, TramNetwork::execute);
        Scene more = sixty.then("a refused 61st character", one -> outcome(one, at -> at.type(';')));
        answers(more, "execute() of 60 characters", 9, TramNetwork::execute);
        Scene again = sixty.then("execute()", TramNetwork::execute).thenText(filled(60, 'x'));
        throwsOnly(again, "the 61st character of a second text: type('x')", STATE, one -> one.type('x'));
    }

    private void everyCommandAlone() {
        sentence("Terms", GRAMMAR);
        for (String command : COMMANDS) {
            String text = digits(command, '0');
            wellFormed(Scene.nothing(), text);
            wellFormed(Scene.nothing(), "tick;" + text + ";tick");
            malformed(text + " ", text.length());
            malformed(text + " 0", text.length());
            malformed(text + "0", text.length());
            malformed(" " + text, 0);
            malformed(text.toUpperCase(java.util.Locale.ROOT), 0);
            if (!command.equals("tick")) {
                malformed(text.substring(0, text.length() - 2), text.length() - 2);
                malformed(text.substring(0, text.length() - 1), text.length() - 1);
            }
        }
    }

    private void everyDigit() {
        sentence("Terms", GRAMMAR);
        for (String command : COMMANDS) {
            for (int at = command.indexOf('#'); at >= 0; at = command.indexOf('#', at + 1)) {
                String before = digits(command.substring(0, at), '5');
                String behind = digits(command.substring(at + 1), '5');
                for (char digit = '0'; digit <= '9'; digit++) {
                    wellFormed(Scene.nothing(), before + digit + behind);
                }
                for (char other : new char[] {'0' - 1, '9' + 1, ' ', '-', '+', ';', 'a', '~'}) {
                    malformed(before + other + behind, at);
                }
                malformed(before + "10" + behind, at + 1);
                malformed(before + behind, at);
            }
        }
    }

    private void oneToTwelveCommands() {
        sentence("Terms", GRAMMAR);
        for (int count = 1; count <= 12; count++) {
            String text = TWELVE_TICKS.substring(0, 5 * count - 1);
            answers(Scene.nothing().thenText(text), "execute()", count, TramNetwork::execute);
            malformed(text + ";", text.length() + 1);
        }
        malformed("", 0);
        malformed(";", 0);
        malformed(";tick", 0);
        malformed("tick;;tick", 5);
        malformed("tick; tick", 5);
        malformed("tick ;tick", 4);
        malformed("tick,tick", 4);
        malformed("ticktick", 4);
    }

    private void everyCharacterBehindEveryBeginning() {
        sentence("Terms", GRAMMAR);
        for (String command : COMMANDS) {
            String whole = digits(command, '7');
            for (int length = 0; length <= whole.length(); length++) {
                for (char next = 32; next <= 126; next++) {
                    afterABeginning(whole.substring(0, length), next);
                }
            }
        }
    }

    private void afterABeginning(String begun, char next) {
        String text = begun + next;
        if (next == ';' && begins(begun, true)) {
            malformed(text, text.length());
        } else if (!begins(text, false)) {
            malformed(text, begun.length());
            malformed("tick;" + text, begun.length() + 5);
        } else if (begins(text, true)) {
            wellFormed(Scene.nothing(), text);
        } else {
            malformed(text, text.length());
            malformed("tick;" + text, text.length() + 5);
        }
    }

    private interface Made {
        void with(TramNetwork network);
    }

    private void likeCalls(Scene scene, String text, Made calls) {
        Scene called = scene.then("calls", calls::with);
        same(scene + ": '" + text + "'", "", Portrait.difference(Portrait.ofState(called),
            Portrait.ofState(scene.thenText(text).then("execute()", TramNetwork::execute))));
    }

    private static Scene emptyBuffer(Scene scene) {
        return scene.then("an empty buffer", one -> outcome(one, TramNetwork::execute));
    }

    private void everyMethodHasItsCommand() {
        sentence("Terms", STAND_FOR);
        Scene town = emptyBuffer(Scene.town());
        likeCalls(Scene.nothing(), "stop 0", one -> one.addStop(0));
        likeCalls(town, "stop 3", one -> one.addStop(3));
        likeCalls(town, "line 1 5", one -> one.addLine(1, 5));
        likeCalls(town, "extend 2 5", one -> one.extendLine(2, 5));
        likeCalls(town, "tram 2", one -> one.addTram(2));
        likeCalls(town, "rider 5", one -> one.addPassenger(5));
        likeCalls(town, "ticket 3 1 9", one -> one.sellTicket(3, 1, 9));
        likeCalls(town, "board 5 0", one -> one.board(5, 0));
        likeCalls(town, "alight 1", one -> one.alight(1));
        likeCalls(town, "secret 4", one -> one.addSecret(4));
        likeCalls(town, "whisper 0 0", one -> one.whisper(0, 0));
        likeCalls(town, "tick", TramNetwork::tick);
    }

    private void parametersInOrder() {
        sentence("Terms", STAND_FOR);
        Scene ten = Scene.stops(10);
        likeCalls(ten, "line 9 0", one -> one.addLine(9, 0));
        likeCalls(ten, "line 0 9", one -> one.addLine(0, 9));
        likeCalls(Scene.lines(5), "extend 4 9", one -> one.extendLine(4, 9));
        likeCalls(Scene.lines(5), "extend 0 4", one -> one.extendLine(0, 4));
        Scene turned = Scene.trams(2).then("2 ticks", one -> Scene.times(2, one::tick));
        likeCalls(turned, "extend 0 9", one -> one.extendLine(0, 9));
        likeCalls(Scene.lines(5), "tram 4", one -> one.addTram(4));
        likeCalls(ten, "rider 9", one -> one.addPassenger(9));
        likeCalls(Scene.passengers(8), "ticket 7 3 9", one -> one.sellTicket(7, 3, 9));
        likeCalls(Scene.passengers(8), "ticket 1 2 3", one -> one.sellTicket(1, 2, 3));
        likeCalls(Scene.passengers(8), "ticket 3 2 1", one -> one.sellTicket(3, 2, 1));
        Scene tickets = Scene.secrets(6);
        likeCalls(tickets, "board 1 0", one -> one.board(1, 0));
        likeCalls(tickets, "board 0 1", one -> one.board(0, 1));
        Scene aboard = tickets.then("all on tram 0", one -> {
            for (int passenger = 0; passenger < 3; passenger++) {
                one.board(passenger, 0);
            }
        });
        likeCalls(aboard, "whisper 2 0", one -> one.whisper(2, 0));
        likeCalls(aboard, "whisper 0 2", one -> one.whisper(0, 2));
        likeCalls(aboard, "whisper 5 2", one -> one.whisper(5, 2));
        likeCalls(aboard, "alight 2", one -> one.alight(2));
    }

    private void positionOfTheFirstWrongCharacter() {
        sentence("Terms", POSITION);
        for (String command : COMMANDS) {
            String text = digits(command, '1');
            for (int index = 0; index < text.length(); index++) {
                malformed(text.substring(0, index) + "~" + text.substring(index + 1), index);
                malformed("tick;" + text.substring(0, index) + "~", index + 5);
                malformed(text.substring(0, index) + "~~" + text.substring(index), index);
            }
            malformed(text + "~", text.length());
            malformed(text + ";~" + text, text.length() + 1);
        }
        malformed(filled(60, ' '), 0);
        malformed(filled(59, ';'), 0);
        malformed(TWELVE_TICKS + "~", 59);
        malformed(TWELVE_TICKS.substring(0, 58) + "~", 58);
        malformed("ticks", 4);
        malformed("ticket", 6);
        malformed("tickes 0 0 1", 5);
        malformed("sto 1", 3);
        malformed("set 1", 2);
        malformed("trick", 2);
        malformed("tamp 0", 1);
    }

    private void endsTooEarly() {
        sentence("Terms", POSITION);
        malformed("", 0);
        for (String command : COMMANDS) {
            String text = digits(command, '1');
            for (int length = 0; length < text.length(); length++) {
                String begun = text.substring(0, length);
                if (!begun.equals("tick")) {
                    malformed(begun, length);
                }
                malformed(text + ";" + (begun.equals("tick") ? "ticke" : begun),
                    text.length() + 1 + (begun.equals("tick") ? 5 : length));
            }
        }
        malformed(TWELVE_TICKS + ";", 60);
        malformed("stop 0;stop 0;stop 0;stop 0;stop 0;stop 0;stop 0;line 0 1;st", 60);
        malformed("stop 0;stop 0;stop 0;stop 0;stop 0;stop 0;stop 0;line 0 1;s", 59);
    }

    private void nothingOfAnEarlierText() {
        sentence("Terms", POSITION);
        Scene longer = Scene.nothing().then("a long text executed", one -> Scene.executing(one, "stop 1;stop 2;tick"));
        for (String text : new String[] {"", "stop", "stop ", "stop 1;", "stop 1;stop", "stop 1;stop 2;tic"}) {
            answers(longer.thenText(text), "execute(), errorPosition()", "IllegalArgumentException at " + text.length(),
                one -> outcome(one, TramNetwork::execute) + " at " + outcome(one, TramNetwork::errorPosition));
        }
        answers(longer.thenText("stop 3"), "execute(), stopCount(), tickCount()", "1 3 1",
            one -> one.execute() + " " + one.stopCount() + " " + one.tickCount());
    }

    private void appendedCharacters() {
        sentence("P52", "Returns the number of characters in the buffer.");
        TramNetwork network = new TramNetwork();
        for (int length = 1; length <= 60; length++) {
            same("type('x')", length, network.type('x'));
        }
        for (char character = 32; character <= 126; character++) {
            char one = character;
            answers(Scene.nothing(), "type('" + character + "')", 1, at -> at.type(one));
        }
        Scene refused = Scene.nothing().thenText("ti").then("type of 127 refused", one -> outcome(one, at ->
            at.type((char) 127)));
        answers(refused, "type('c')", 3, one -> one.type('c'));
        answers(refused.thenText("ck"), "execute()", 1, TramNetwork::execute);
        answers(Scene.nothing().thenText("tick").then("execute()", TramNetwork::execute), "type('x')", 1,
            one -> one.type('x'));
    }

    private void characterOutOfRange() {
        sentence("P52", "Throws `IllegalArgumentException` if the character is not from 32 to 126");
        int[] outside = {0, 9, 10, 13, 31, 127, 128, 160, 255, 256, 256 + 'x', 65535};
        for (Scene scene : new Scene[] {Scene.nothing(), Scene.nothing().thenText("tic"),
            Scene.nothing().thenText(TWELVE_TICKS), Scene.full()}) {
            for (int number : outside) {
                char character = (char) number;
                refuses(scene, "type of " + number, ARGUMENT, one -> one.type(character));
            }
        }
        answers(Scene.nothing(), "type of 32", 1, one -> one.type((char) 32));
        answers(Scene.nothing(), "type of 126", 1, one -> one.type((char) 126));
    }

    private void sixtyOneCharacters() {
        sentence("P52", "Throws `IllegalStateException` if the buffer contains 60 characters");
        answers(Scene.nothing().thenText(TWELVE_TICKS), "type(';')", 60, one -> one.type(';'));
        Scene full = Scene.nothing().thenText(TWELVE_TICKS + ";");
        for (char character : new char[] {32, 'x', ';', 126}) {
            refuses(full, "type('" + character + "')", STATE, one -> one.type(character));
            refuses(Scene.full(), "type('" + character + "')", STATE, one -> one.type(character));
        }
        answers(Scene.full(), "execute() after a refused character", 2, one -> {
            outcome(one, at -> at.type('x'));
            outcome(one, TramNetwork::execute);
            one.type('t');
            return one.type('i');
        });
    }

    private void emptyAfterwards() {
        sentence("P53", EXECUTES);
        Scene executed = Scene.nothing().thenText("tick").then("executed", TramNetwork::execute);
        Scene malformed = Scene.nothing().then("a malformed text", one -> Scene.executingInVain(one, "tick;tack"));
        Scene failed = Scene.nothing().then("a failing text", one -> Scene.executingInVain(one, "tick;stop 9"));
        Scene sixty = Scene.nothing().then("a malformed text of 60 characters",
            one -> Scene.executingInVain(one, filled(60, 'x')));
        for (Scene scene : new Scene[] {executed, malformed, failed, sixty}) {
            answers(scene, "type('t')", 1, one -> one.type('t'));
            throwsOnly(scene, "execute() of the empty buffer", ARGUMENT, TramNetwork::execute);
            answers(scene, "errorPosition() of the empty buffer", "0", one -> {
                outcome(one, TramNetwork::execute);
                return one.errorPosition();
            });
            answers(scene.thenText("tick"), "execute()", 1, TramNetwork::execute);
            answers(scene.thenText(filled(59, 'x')), "type('x')", 60, one -> one.type('x'));
        }
    }

    private void allOfThem() {
        sentence("P53", ALL_OR_NONE);
        answers(Scene.nothing().then(TWELVE_TICKS, one -> Scene.executing(one, TWELVE_TICKS)), "tickCount()", 12,
            TramNetwork::tickCount);
        Scene order = Scene.nothing().then("a text in which each command needs the ones before",
            one -> Scene.executing(one, "stop 0;stop 1;line 0 1;tram 0;rider 0;ticket 0 0 1;board 0 0"));
        answers(order, "tramOfPassenger(0)", 0, one -> one.tramOfPassenger(0));
        Scene more = order.then("and one more", one -> Scene.executing(one, "tick;secret 0;alight 0"));
        answers(more, "isTruth(0)", true, one -> one.isTruth(0));
        answers(more, "stopOfPassenger(0)", 1, one -> one.stopOfPassenger(0));
    }

    private void noneOfThem() {
        sentence("P53", ALL_OR_NONE);
        String[] each = {"stop 0", "line 1 5", "extend 2 5", "tram 2", "rider 5", "ticket 3 1 9", "board 5 0",
            "alight 1", "secret 4", "whisper 0 0", "tick"};
        Scene town = emptyBuffer(Scene.town());
        for (String command : each) {
            answers(town.thenText(command), "execute()", 1, TramNetwork::execute);
            refusesText(town, command + ";stop 9", STATE);
            refusesText(town, command + ";tick;tick;tick;stop 9", STATE);
            refusesText(town, "tick;" + command + ";stop 9;tick", STATE);
        }
        refusesText(town, "stop 9;tick", STATE);
        refusesText(Scene.nothing(), TWELVE_TICKS.substring(0, 50) + "stop 9", STATE);
        refusesText(Scene.nothing(), "stop 0;stop 0;line 0 1;tram 0;rider 0;secret 0;tick;alight 0", STATE);
        refusesText(Scene.nothing(), "stop 0;tick;tack", ARGUMENT);
        refusesText(town, "stop 0;rider 5;alight 1;secret 4;", ARGUMENT);
    }

    private void failsWhereItsMethodThrows() {
        sentence("P53", "A command fails if the method for it would throw an exception.");
        Scene town = emptyBuffer(Scene.town());
        for (String text : new String[] {"stop 4", "line 0 6", "line 6 0", "line 1 1", "extend 3 0", "extend 0 6",
            "extend 0 3", "tram 3", "rider 6", "ticket 6 0 1", "ticket 0 4 1", "ticket 0 0 0", "ticket 5 0 3",
            "board 6 0", "board 2 4", "board 0 0", "board 4 0", "board 3 3", "alight 6", "alight 2", "secret 6",
            "whisper 3 0", "whisper 0 6", "whisper 1 0", "whisper 0 1", "whisper 0 2", "whisper 2 0"}) {
            refusesText(town, text, STATE);
        }
        Scene full = emptyBuffer(Scene.full());
        for (String text : new String[] {"stop 0", "line 0 9", "extend 0 9", "tram 0", "rider 0", "ticket 0 0 1",
            "secret 0"}) {
            refusesText(full, text, STATE);
        }
        answers(town.thenText("stop 3"), "execute()", 1, TramNetwork::execute);
        answers(town.thenText("rider 5"), "execute()", 1, TramNetwork::execute);
        answers(town.thenText("ticket 5 0 2"), "execute()", 1, TramNetwork::execute);
        answers(town.thenText("board 3 1"), "execute() of a transfer", 1, TramNetwork::execute);
        Scene almost = Scene.stops(9);
        answers(almost.thenText("stop 0"), "execute()", 1, TramNetwork::execute);
        refusesText(almost, "stop 0;stop 0", STATE);
    }

    private void numberOfCommands() {
        sentence("P53", "Returns the number of commands.");
        for (int count = 1; count <= 12; count++) {
            answers(Scene.nothing().thenText(TWELVE_TICKS.substring(0, 5 * count - 1)), "execute()", count,
                TramNetwork::execute);
        }
        answers(Scene.nothing().thenText("stop 0"), "execute()", 1, TramNetwork::execute);
        answers(Scene.nothing().thenText("stop 0;stop 0;rider 0;ticket 0 0 1;ticket 0 0 2"), "execute()", 5,
            TramNetwork::execute);
    }

    private void malformedText() {
        sentence("P53", MALFORMED);
        Scene town = emptyBuffer(Scene.town());
        for (String text : new String[] {"", "x", "tick;", "stop 9;", "stop 9;x", "stop 0;stop 0;tic", "tick;stop 10",
            TWELVE_TICKS + ";"}) {
            refusesText(Scene.nothing(), text, ARGUMENT);
            refusesText(town, text, ARGUMENT);
        }
        malformed("stop 9;x", 7);
        throwsOnly(Scene.nothing().then("a text that is malformed and would fail",
            one -> Scene.executingInVain(one, "stop 9;x")), "failedCommand()", ELEMENT, TramNetwork::failedCommand);
        Scene full = emptyBuffer(Scene.full());
        refusesText(full, "tick;tack", ARGUMENT);
    }

    private void failing(Scene scene, String text, int index) {
        answers(scene.thenText(text), "execute(), failedCommand()", "IllegalStateException at " + index,
            one -> outcome(one, TramNetwork::execute) + " at " + outcome(one, TramNetwork::failedCommand));
    }

    private void failingText() {
        sentence("P53", FAILS);
        for (int index = 0; index < 12; index++) {
            String text = TWELVE_TICKS.substring(0, 5 * index) + "stop 9";
            if (text.length() <= 60) {
                failing(Scene.nothing(), text, index);
                refusesText(Scene.nothing(), text, STATE);
            }
        }
        failing(Scene.nothing(), "stop 9;stop 9", 0);
        failing(Scene.nothing(), "stop 3;stop 4;stop 5", 1);
        failing(Scene.nothing(), "stop 0;stop 0;line 0 1;line 1 1", 3);
        failing(Scene.nothing(), "stop 0;tick;tick;tick;tick;tick;tick;tick;tick;tick;tram 0", 10);
        Scene never = Scene.nothing().then("a failing text", one -> Scene.executingInVain(one, "tick;stop 9"));
        throwsOnly(never, "errorPosition()", ELEMENT, TramNetwork::errorPosition);
    }

    private void failingTextKeepsWhatCanBeUndone() {
        sentence("P53", FAILS);
        for (int ticks = 0; ticks <= 9; ticks++) {
            int passed = ticks;
            Scene scene = Scene.nothing().then(ticks + " ticks", one -> Scene.times(passed, one::tick));
            refusesText(scene, "tick;tick;stop 0;stop 9", STATE);
            refusesText(scene, "tick;tick;stop 0;stop", ARGUMENT);
        }
    }

    private void errorPosition() {
        sentence("P54", "Returns the error position of the last malformed text.");
        String[] texts = {"", "tick;", TWELVE_TICKS + ";", "x", "sto"};
        int[] due = {0, 5, 60, 0, 3};
        TramNetwork network = new TramNetwork();
        for (int index = 0; index < texts.length; index++) {
            Scene.executingInVain(network, texts[index]);
            same("errorPosition() of '" + texts[index] + "'", due[index], network.errorPosition());
            same("errorPosition() again", due[index], network.errorPosition());
            Scene.executing(network, "tick");
            same("errorPosition() after an executed text", due[index], network.errorPosition());
            Scene.executingInVain(network, "tick;stop 9");
            same("errorPosition() after a failing text", due[index], network.errorPosition());
        }
    }

    private void noTextMalformed() {
        sentence("P54", "Throws `NoSuchElementException` if no text was malformed so far");
        refuses(Scene.nothing(), "errorPosition()", ELEMENT, TramNetwork::errorPosition);
        refuses(Scene.full(), "errorPosition()", ELEMENT, TramNetwork::errorPosition);
        Scene executed = Scene.nothing().then("an executed text", one -> Scene.executing(one, "tick"));
        refuses(executed, "errorPosition()", ELEMENT, TramNetwork::errorPosition);
        Scene failed = executed.then("a failing text", one -> Scene.executingInVain(one, "tick;stop 9"));
        refuses(failed, "errorPosition()", ELEMENT, TramNetwork::errorPosition);
        refuses(Scene.nothing().thenText("xx"), "errorPosition()", ELEMENT, TramNetwork::errorPosition);
        Scene malformed = failed.then("an empty text", one -> Scene.executingInVain(one, ""));
        answers(malformed, "errorPosition()", 0, TramNetwork::errorPosition);
    }

    private void failedCommand() {
        sentence("P55", "Returns the index of the command that failed in the last text that had one.");
        String[] texts = {"stop 9", "tick;tick;tick;tick;tick;tick;tick;tick;tick;tick;tram 0", "stop 0;stop 4;tick",
            "rider 0;stop 0"};
        int[] due = {0, 10, 1, 0};
        TramNetwork network = new TramNetwork();
        for (int index = 0; index < texts.length; index++) {
            Scene.executingInVain(network, texts[index]);
            same("failedCommand() of '" + texts[index] + "'", due[index], network.failedCommand());
            same("failedCommand() again", due[index], network.failedCommand());
            Scene.executing(network, "tick");
            same("failedCommand() after an executed text", due[index], network.failedCommand());
            Scene.executingInVain(network, "tick;tick;");
            same("failedCommand() after a malformed text", due[index], network.failedCommand());
        }
    }

    private void firstAndLastFailingCommand() {
        sentence("P55", "Returns the index of the command, from 0.");
        failing(Scene.nothing(), "stop 9", 0);
        failing(Scene.nothing(), "stop 9;tick", 0);
        failing(Scene.nothing(), "tick;stop 9", 1);
        // The last one that can fail: a twelfth command can only be "tick", and a text of twelve is full.
        failing(Scene.nothing(), TWELVE_TICKS.substring(0, 50) + "line 9 9", 10);
        failing(Scene.nothing(), TWELVE_TICKS.substring(0, 50) + "tram 0", 10);
    }

    private void noCommandFailed() {
        sentence("P55", "Throws `NoSuchElementException` if no command failed so far");
        refuses(Scene.nothing(), "failedCommand()", ELEMENT, TramNetwork::failedCommand);
        refuses(Scene.full(), "failedCommand()", ELEMENT, TramNetwork::failedCommand);
        Scene executed = Scene.nothing().then("an executed text", one -> Scene.executing(one, "tick"));
        refuses(executed, "failedCommand()", ELEMENT, TramNetwork::failedCommand);
        Scene malformed = executed.then("a malformed text", one -> Scene.executingInVain(one, "stop 9;x"));
        refuses(malformed, "failedCommand()", ELEMENT, TramNetwork::failedCommand);
        Scene refused = executed.then("a refused call", one -> outcome(one, at -> at.addStop(4)));
        refuses(refused, "failedCommand()", ELEMENT, TramNetwork::failedCommand);
        Scene failed = malformed.then("a failing text", one -> Scene.executingInVain(one, "stop 9"));
        answers(failed, "failedCommand()", 0, TramNetwork::failedCommand);
    }
}

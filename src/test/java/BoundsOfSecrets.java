import java.util.List;

/** Promises 34 to 41, and what "Terms" says of secrets. */
final class BoundsOfSecrets extends Bounds {
    private static final String NO_PASSENGER = "Throws `IndexOutOfBoundsException` if there is no such passenger";
    private static final String NO_SECRET = "Throws `IndexOutOfBoundsException` if there is no such secret";
    private static final String WHISPERS = "When the carrier whispers a secret to another passenger on the same tram,"
        + " that passenger carries it, and every passenger on this tram knows it from then on.";
    private static final String BECOMES_TRUTH = "When a passenger alights at a terminus, all secrets that this"
        + " passenger carries become truths.";

    private static final List<Integer> RIDERS = List.of(1, 4, 6, 7);

    BoundsOfSecrets(Check check) {
        super(check);
    }

    @Override
    Runnable[] tests() {
        return new Runnable[] {
            this::oneTramAtATime, this::atMostSixSecrets, this::oneCarrierUntilATruth,
            this::carriedAndKnownByItsAdder, this::newSecretWhereAnotherWas, this::everyoneOnTheTramKnows,
            this::everyTramAlone, this::fromThenOn, this::allSecretsBecomeTruths, this::noTruthsElsewhere,
            this::terminusAtThisMoment, this::knowledgeIsNeverLost, this::carrierOfANewSecret,
            this::numberOfANewSecret, this::secretOfAMissingPassenger, this::sevenSecrets, this::listenerCarriesIt,
            this::knowersAfterAWhisper, this::whisperOfAMissingSecretOrToAMissingPassenger, this::whisperOfATruth,
            this::whisperToTheCarrierOrApart, this::secretCount, this::carrierOf, this::carrierOfAMissingSecret,
            this::isTruth, this::isTruthOfAMissingSecret, this::knows, this::knowsOfAMissingPassengerOrSecret,
            this::knowerCount, this::knowerCountOfAMissingSecret, this::wisestInATie, this::wisestByNumberOfSecrets,
            this::firstAndLastRank, this::missingRank,
        };
    }

    /**
     * Line 0 is 0-1-2, line 1 is 4-5; trams 0 and 1 on line 0, and eight passengers with 9 rides in zone 0, at stop
     * 0.
     */
    private static Scene company() {
        return Scene.passengers(8).then("with tickets", one -> {
            for (int passenger = 0; passenger < 8; passenger++) {
                one.sellTicket(passenger, 0, 9);
            }
        });
    }

    /** Passenger 0 carries the secrets; the passengers up to a number are on tram 0. */
    private static Scene aboard(int passengers, int secrets) {
        return company().then(secrets + " secrets, " + passengers + " passengers on tram 0", one -> {
            Scene.times(secrets, () -> one.addSecret(0));
            for (int passenger = 0; passenger < passengers; passenger++) {
                one.board(passenger, 0);
            }
        });
    }

    private void oneTramAtATime() {
        sentence("Terms", "A secret rides one tram at a time, because one passenger carries it.");
        Scene scene = aboard(3, 1).then("passengers 3 and 4 on tram 1, a whisper on tram 0", one -> {
            one.board(3, 1);
            one.board(4, 1);
            one.whisper(0, 1);
        });
        answers(scene, "carrierOf(0)", 1, one -> one.carrierOf(0));
        answers(scene, "knows(3, 0) on the other tram", false, one -> one.knows(3, 0));
        answers(scene, "knows(4, 0) on the other tram", false, one -> one.knows(4, 0));
        throwsOnly(scene, "whisper(0, 3) to the other tram", UNSUPPORTED, one -> one.whisper(0, 3));
    }

    private void atMostSixSecrets() {
        sentence("Terms", "There are at most 6 secrets, numbered from 0.");
        TramNetwork network = company().make();
        for (int secret = 0; secret < 6; secret++) {
            same("addSecret", secret, network.addSecret(7 - secret));
        }
        for (int secret = 0; secret < 6; secret++) {
            same("carrierOf(" + secret + ")", 7 - secret, network.carrierOf(secret));
        }
        throwsOnly(Scene.secrets(6), "a seventh addSecret", STATE, one -> one.addSecret(0));
        Scene truths = aboard(1, 6).then("alight(0) at a terminus", one -> one.alight(0));
        throwsOnly(truths, "a seventh addSecret behind six truths", STATE, one -> one.addSecret(0));
        Scene refused = Scene.secrets(5).then("addSecret(3)", one -> outcome(one, at -> at.addSecret(3)));
        answers(refused, "a refused secret takes no number: addSecret(0)", 5, one -> one.addSecret(0));
        answers(Scene.secrets(6).then("undo", TramNetwork::undo), "room again: addSecret(0)", 5,
            one -> one.addSecret(0));
    }

    private void oneCarrierUntilATruth() {
        sentence("Terms", "A secret is carried by exactly one passenger, until it becomes a truth, which nobody"
            + " carries.");
        Scene before = aboard(3, 1);
        Scene whispered = before.then("whisper(0, 2)", one -> one.whisper(0, 2));
        Scene truth = whispered.then("alight(2)", one -> one.alight(2));
        carries(before, 0);
        carries(whispered, 2);
        carries(truth, -1);
    }

    /** The lines of text of all passengers tell who carries secret 0. */
    private void carries(Scene scene, int carrier) {
        answers(scene, "carrierOf(0)", carrier, one -> one.carrierOf(0));
        answers(scene, "isTruth(0)", carrier < 0, one -> one.isTruth(0));
        for (int passenger = 0; passenger < 8; passenger++) {
            int at = passenger;
            answers(scene, "'s0' in writePassenger(" + at + ")", at == carrier, one -> {
                one.writePassenger(at);
                return Portrait.written(one).endsWith("s0");
            });
        }
    }

    private void carriedAndKnownByItsAdder() {
        sentence("Terms", "A passenger who adds a secret carries and knows it.");
        for (int adder = 0; adder < 8; adder++) {
            int by = adder;
            Scene scene = company().then("addSecret(" + adder + ")", one -> one.addSecret(by));
            carries(scene, adder);
            for (int passenger = 0; passenger < 8; passenger++) {
                int at = passenger;
                answers(scene, "knows(" + at + ", 0)", at == by, one -> one.knows(at, 0));
            }
        }
    }

    private void newSecretWhereAnotherWas() {
        sentence("Terms", "A passenger who adds a secret carries and knows it.");
        Scene again = aboard(8, 0).then("saved, a secret that all know and that is a truth, restored, another", one -> {
            one.save();
            one.addSecret(0);
            one.whisper(0, 1);
            one.alight(1);
            one.restore();
            one.addSecret(7);
        });
        answers(again, "carrierOf(0)", 7, one -> one.carrierOf(0));
        answers(again, "isTruth(0)", false, one -> one.isTruth(0));
        answers(again, "knowerCount(0)", 1, one -> one.knowerCount(0));
        answers(again, "knows(7, 0)", true, one -> one.knows(7, 0));
        answers(again, "knows(0, 0)", false, one -> one.knows(0, 0));
    }

    private void everyoneOnTheTramKnows() {
        sentence("Terms", WHISPERS);
        for (int count = 2; count <= 8; count++) {
            int last = count - 1;
            Scene scene = aboard(count, 2).then("whisper(1, " + last + ")", one -> one.whisper(1, last));
            for (int passenger = 0; passenger < 8; passenger++) {
                int at = passenger;
                answers(scene, "knows(" + at + ", 1)", at <= last, one -> one.knows(at, 1));
                answers(scene, "knows(" + at + ", 0), which was not whispered", at == 0, one -> one.knows(at, 0));
            }
            answers(scene, "carrierOf(1)", last, one -> one.carrierOf(1));
            answers(scene, "carrierOf(0)", 0, one -> one.carrierOf(0));
        }
    }

    private void everyTramAlone() {
        sentence("Terms", WHISPERS);
        for (int tram = 0; tram < 6; tram++) {
            int on = tram;
            int beside = (tram + 1) % 6;
            Scene scene = Scene.trams(6).then("8 passengers, of whom 1, 4, 6, 7 ride tram " + on + ", the others tram "
                + beside, one -> {
                for (int passenger = 0; passenger < 8; passenger++) {
                    one.addPassenger(0);
                    one.sellTicket(passenger, 0, 1);
                    one.board(passenger, RIDERS.contains(passenger) ? on : beside);
                }
                one.addSecret(5);
                one.addSecret(6);
            });
            answers(scene, "whisper(1, 4)", 4, one -> one.whisper(1, 4));
            answers(scene, "whisper(0, 0)", 4, one -> one.whisper(0, 0));
            throwsOnly(scene, "whisper(1, 0)", UNSUPPORTED, one -> one.whisper(1, 0));
            throwsOnly(scene, "whisper(0, 7)", UNSUPPORTED, one -> one.whisper(0, 7));
            Scene whispered = scene.then("whisper(1, 4)", one -> one.whisper(1, 4));
            for (int passenger = 0; passenger < 8; passenger++) {
                int at = passenger;
                answers(whispered, "knows(" + at + ", 1)", RIDERS.contains(at), one -> one.knows(at, 1));
            }
            answers(whispered, "carrierOf(1)", 4, one -> one.carrierOf(1));
        }
    }

    private void fromThenOn() {
        sentence("Terms", WHISPERS);
        Scene scene = aboard(3, 1).then("passenger 2 alights, whisper(0, 1), passengers 2 and 3 board", one -> {
            one.alight(2);
            one.whisper(0, 1);
            one.board(2, 0);
            one.board(3, 0);
        });
        answers(scene, "knows(2, 0), who was not there", false, one -> one.knows(2, 0));
        answers(scene, "knows(3, 0), who came later", false, one -> one.knows(3, 0));
        answers(scene.then("whisper(0, 0)", one -> one.whisper(0, 0)), "knows(2, 0)", true, one -> one.knows(2, 0));
        answers(scene.then("whisper(0, 0)", one -> one.whisper(0, 0)), "knows(3, 0)", true, one -> one.knows(3, 0));
    }

    private void allSecretsBecomeTruths() {
        sentence("Terms", BECOMES_TRUTH);
        for (int secrets = 0; secrets <= 6; secrets++) {
            int count = secrets;
            Scene scene = aboard(1, secrets).then("secrets of passenger 1, alight(0)", one -> {
                Scene.times(6 - count, () -> one.addSecret(1));
                one.alight(0);
            });
            for (int secret = 0; secret < 6; secret++) {
                int at = secret;
                answers(scene, "isTruth(" + at + ")", at < count, one -> one.isTruth(at));
                answers(scene, "carrierOf(" + at + ")", at < count ? -1 : 1, one -> one.carrierOf(at));
            }
        }
        Scene end = aboard(1, 6).then("2 ticks, alight(0)", one -> {
            one.tick();
            one.tick();
            one.alight(0);
        });
        answers(end, "isTruth(0) at the last stop of the line", true, one -> one.isTruth(0));
        answers(end, "isTruth(5) at the last stop of the line", true, one -> one.isTruth(5));
    }

    private void noTruthsElsewhere() {
        sentence("Terms", BECOMES_TRUTH);
        Scene between = aboard(1, 1).then("tick, alight(0)", one -> {
            one.tick();
            one.alight(0);
        });
        answers(between, "isTruth(0) between the ends", false, one -> one.isTruth(0));
        answers(between, "carrierOf(0) between the ends", 0, one -> one.carrierOf(0));
        Scene riding = aboard(1, 1).then("2 ticks", one -> Scene.times(2, one::tick));
        answers(riding, "isTruth(0) on a tram at the end", false, one -> one.isTruth(0));
        answers(company().then("addSecret(0)", one -> one.addSecret(0)), "isTruth(0) of a passenger at a terminus",
            false, one -> one.isTruth(0));
        Scene known = aboard(2, 1).then("whisper(0, 1), alight(0), who knows it still", one -> {
            one.whisper(0, 1);
            one.alight(0);
        });
        answers(known, "isTruth(0) when another carries it", false, one -> one.isTruth(0));
        answers(known, "carrierOf(0) when another carries it", 1, one -> one.carrierOf(0));
        Scene late = aboard(1, 0).then("alight(0), addSecret(0)", one -> {
            one.alight(0);
            one.addSecret(0);
        });
        answers(late, "isTruth(0) of a secret added behind the alighting", false, one -> one.isTruth(0));
    }

    private void terminusAtThisMoment() {
        sentence("Terms", BECOMES_TRUTH);
        Scene between = aboard(1, 1).then("tick", TramNetwork::tick);
        Scene other = between.then("stop 1 is an end of a new line, alight(0)", one -> {
            one.addLine(8, 1);
            one.alight(0);
        });
        answers(other, "isTruth(0)", true, one -> one.isTruth(0));
        Scene extended = aboard(1, 1).then("2 ticks, stop 2 is no end any more, alight(0)", one -> {
            one.tick();
            one.tick();
            one.extendLine(0, 9);
            one.alight(0);
        });
        answers(extended, "isTruth(0)", false, one -> one.isTruth(0));
        Scene late = between.then("alight(0), stop 1 is an end of a new line then", one -> {
            one.alight(0);
            one.addLine(1, 8);
        });
        answers(late, "isTruth(0)", false, one -> one.isTruth(0));
    }

    private void knowledgeIsNeverLost() {
        sentence("Terms", "Knowledge is never lost.");
        Scene whispered = aboard(3, 1).then("whisper(0, 1)", one -> one.whisper(0, 1));
        Scene away = whispered.then("alight(0), alight(2), tick", one -> {
            one.alight(0);
            one.alight(2);
            one.tick();
        });
        Scene truth = away.then("tick, alight(1)", one -> {
            one.tick();
            one.alight(1);
        });
        Scene later = truth.then("20 ticks, more secrets", one -> {
            Scene.times(20, one::tick);
            Scene.times(5, () -> one.addSecret(3));
        });
        for (Scene scene : new Scene[] {whispered, away, truth, later}) {
            for (int passenger = 0; passenger < 8; passenger++) {
                int at = passenger;
                answers(scene, "knows(" + at + ", 0)", at < 3, one -> one.knows(at, 0));
            }
            answers(scene, "knowerCount(0)", 3, one -> one.knowerCount(0));
        }
    }

    private void carrierOfANewSecret() {
        sentence("P34", "`passenger`: the passenger who carries and knows it");
        for (int secret = 0; secret < 6; secret++) {
            int at = secret;
            Scene scene = Scene.secrets(secret).then("addSecret(2)", one -> one.addSecret(2));
            answers(scene, "carrierOf(" + at + ")", 2, one -> one.carrierOf(at));
            answers(scene, "knows(2, " + at + ")", true, one -> one.knows(2, at));
            answers(scene, "knows(1, " + at + ")", false, one -> one.knows(1, at));
            answers(scene, "knowerCount(" + at + ")", 1, one -> one.knowerCount(at));
        }
    }

    private void numberOfANewSecret() {
        sentence("P34", "Returns the number of the secret.");
        for (int count = 0; count < 6; count++) {
            answers(Scene.secrets(count), "addSecret(0)", count, one -> one.addSecret(0));
        }
        Scene truths = aboard(1, 3).then("alight(0)", one -> one.alight(0));
        answers(truths, "addSecret(0) behind three truths", 3, one -> one.addSecret(0));
    }

    private void secretOfAMissingPassenger() {
        sentence("P34", NO_PASSENGER);
        numbers("addSecret", Scene::passengers, 8, TramNetwork::addSecret);
        refuses(Scene.secrets(6), "addSecret(3)", INDEX, one -> one.addSecret(3));
        refuses(Scene.secrets(6), "addSecret(-1)", INDEX, one -> one.addSecret(-1));
    }

    private void sevenSecrets() {
        sentence("P34", "Throws `IllegalStateException` if there are 6 secrets");
        answers(Scene.secrets(5), "addSecret(0)", 5, one -> one.addSecret(0));
        for (int passenger = 0; passenger < 3; passenger++) {
            int at = passenger;
            refuses(Scene.secrets(6), "addSecret(" + at + ")", STATE, one -> one.addSecret(at));
        }
        refuses(aboard(1, 6).then("alight(0)", one -> one.alight(0)), "addSecret(0) behind six truths", STATE,
            one -> one.addSecret(0));
        refuses(Scene.full(), "addSecret(7)", STATE, one -> one.addSecret(7));
    }

    private void listenerCarriesIt() {
        sentence("P35", "`listener`: the passenger who carries it afterwards");
        for (int listener = 1; listener < 8; listener++) {
            int to = listener;
            Scene scene = aboard(8, 6).then("whisper(5, " + to + ")", one -> one.whisper(5, to));
            answers(scene, "carrierOf(5)", to, one -> one.carrierOf(5));
            answers(scene, "carrierOf(4)", 0, one -> one.carrierOf(4));
            Scene back = scene.then("whisper(5, 0)", one -> one.whisper(5, 0));
            answers(back, "carrierOf(5) after the whisper back", 0, one -> one.carrierOf(5));
        }
    }

    private void knowersAfterAWhisper() {
        sentence("P35", "Returns the number of passengers who know it afterwards.");
        for (int count = 2; count <= 8; count++) {
            int knowers = count;
            answers(aboard(count, 1), "whisper(0, 1)", count, one -> one.whisper(0, 1));
            answers(aboard(count, 1), "a second whisper back", knowers, one -> {
                one.whisper(0, 1);
                return one.whisper(0, 0);
            });
        }
        Scene elsewhere = aboard(4, 1).then("whisper(0, 1), passengers 0, 2 and 3 leave, 4 boards", one -> {
            one.whisper(0, 1);
            one.alight(0);
            one.alight(2);
            one.alight(3);
            one.board(4, 0);
        });
        answers(elsewhere, "those elsewhere who know it count: whisper(0, 4)", 5, one -> one.whisper(0, 4));
    }

    private void whisperOfAMissingSecretOrToAMissingPassenger() {
        sentence("P35", "Throws `IndexOutOfBoundsException` if there is no such secret or passenger");
        numbers("whisper(., 0)", Scene::secrets, 6, (one, number) -> one.whisper(number, 0));
        numbers("whisper(0, .)", count -> Scene.passengers(count).then("a secret if there is a passenger",
            one -> outcome(one, at -> at.addSecret(0))), 8, (one, number) -> one.whisper(0, number));
        refuses(aboard(2, 1), "whisper(1, 1)", INDEX, one -> one.whisper(1, 1));
        refuses(aboard(2, 1), "whisper(-1, 1)", INDEX, one -> one.whisper(-1, 1));
        refuses(aboard(2, 1), "whisper(0, 8)", INDEX, one -> one.whisper(0, 8));
        refuses(aboard(2, 1), "whisper(0, -1)", INDEX, one -> one.whisper(0, -1));
        Scene truth = aboard(2, 1).then("alight(0)", one -> one.alight(0));
        refuses(truth, "whisper(0, 8) of a truth", INDEX, one -> one.whisper(0, 8));
        answers(aboard(8, 6), "whisper(5, 7)", 8, one -> one.whisper(5, 7));
    }

    private void whisperOfATruth() {
        sentence("P35", "Throws `IllegalStateException` if the secret is a truth");
        Scene truths = aboard(3, 6).then("whisper(3, 1), alight(0)", one -> {
            one.whisper(3, 1);
            one.alight(0);
        });
        for (int secret = 0; secret < 6; secret++) {
            int at = secret;
            for (int listener = 0; listener < 8; listener++) {
                int to = listener;
                if (at != 3) {
                    refuses(truths, "whisper(" + at + ", " + to + ")", STATE, one -> one.whisper(at, to));
                }
            }
        }
        answers(truths, "whisper(3, 2), which is no truth", 3, one -> one.whisper(3, 2));
        Scene back = truths.then("board(0, 0)", one -> one.board(0, 0));
        refuses(back, "whisper(0, 1) on the same tram again", STATE, one -> one.whisper(0, 1));
    }

    private void whisperToTheCarrierOrApart() {
        sentence("P35", "Throws `UnsupportedOperationException` if the listener is the carrier, or the two are not on"
            + " the same tram");
        refuses(aboard(0, 1), "both at the same stop: whisper(0, 1)", UNSUPPORTED, one -> one.whisper(0, 1));
        refuses(aboard(0, 1), "to the carrier at a stop: whisper(0, 0)", UNSUPPORTED, one -> one.whisper(0, 0));
        refuses(aboard(1, 1), "to the carrier on a tram: whisper(0, 0)", UNSUPPORTED, one -> one.whisper(0, 0));
        refuses(aboard(1, 1), "to one at the stop: whisper(0, 1)", UNSUPPORTED, one -> one.whisper(0, 1));
        Scene listening = aboard(0, 1).then("board(1, 0)", one -> one.board(1, 0));
        refuses(listening, "from the stop to one on a tram: whisper(0, 1)", UNSUPPORTED, one -> one.whisper(0, 1));
        Scene two = aboard(1, 1).then("board(1, 1)", one -> one.board(1, 1));
        refuses(two, "on two trams at the same stop: whisper(0, 1)", UNSUPPORTED, one -> one.whisper(0, 1));
        Scene left = aboard(3, 1).then("whisper(0, 1)", one -> one.whisper(0, 1));
        refuses(left, "to the carrier of now: whisper(0, 1)", UNSUPPORTED, one -> one.whisper(0, 1));
        answers(left, "to the carrier before: whisper(0, 0)", 3, one -> one.whisper(0, 0));
        refuses(left.then("alight(2)", one -> one.alight(2)), "to one who has left the tram: whisper(0, 2)",
            UNSUPPORTED, one -> one.whisper(0, 2));
    }

    private void secretCount() {
        sentence("P36", "Returns the number of secrets, truths included.");
        for (int count = 0; count <= 6; count++) {
            answers(aboard(1, count), "secretCount()", count, TramNetwork::secretCount);
            answers(aboard(1, count).then("alight(0)", one -> one.alight(0)), "secretCount() of truths", count,
                TramNetwork::secretCount);
        }
        answers(Scene.secrets(1).then("undo", TramNetwork::undo), "secretCount()", 0, TramNetwork::secretCount);
    }

    private void carrierOf() {
        sentence("P37", "Returns the number of the passenger, -1 if the secret is a truth.");
        for (int secret = 0; secret < 6; secret++) {
            int at = secret;
            answers(aboard(1, 6), "carrierOf(" + at + ")", 0, one -> one.carrierOf(at));
            answers(aboard(1, 6).then("alight(0)", one -> one.alight(0)), "carrierOf(" + at + ") of a truth", -1,
                one -> one.carrierOf(at));
        }
        answers(company().then("addSecret(7)", one -> one.addSecret(7)), "carrierOf(0)", 7, one -> one.carrierOf(0));
    }

    private void carrierOfAMissingSecret() {
        sentence("P37", NO_SECRET);
        numbers("carrierOf", Scene::secrets, 6, TramNetwork::carrierOf);
    }

    private void isTruth() {
        sentence("P38", "Returns whether it is a truth.");
        Scene truths = aboard(2, 6).then("whisper(0, 1), whisper(5, 1), alight(1)", one -> {
            one.whisper(0, 1);
            one.whisper(5, 1);
            one.alight(1);
        });
        for (int secret = 0; secret < 6; secret++) {
            int at = secret;
            answers(aboard(2, 6), "isTruth(" + at + ")", false, one -> one.isTruth(at));
            answers(truths, "isTruth(" + at + ")", at == 0 || at == 5, one -> one.isTruth(at));
        }
    }

    private void isTruthOfAMissingSecret() {
        sentence("P38", NO_SECRET);
        numbers("isTruth", Scene::secrets, 6, TramNetwork::isTruth);
    }

    private void knows() {
        sentence("P39", "Returns whether the passenger knows it.");
        Scene scene = company().then("six secrets of passengers 7 to 2", one -> {
            for (int secret = 0; secret < 6; secret++) {
                one.addSecret(7 - secret);
            }
        });
        for (int passenger = 0; passenger < 8; passenger++) {
            for (int secret = 0; secret < 6; secret++) {
                int at = passenger;
                int of = secret;
                answers(scene, "knows(" + at + ", " + of + ")", at == 7 - of, one -> one.knows(at, of));
            }
        }
    }

    private void knowsOfAMissingPassengerOrSecret() {
        sentence("P39", "Throws `IndexOutOfBoundsException` if there is no such passenger or secret");
        numbers("knows(., 0)", count -> Scene.passengers(count).then("a secret if there is a passenger",
            one -> outcome(one, at -> at.addSecret(0))), 8, (one, number) -> one.knows(number, 0));
        numbers("knows(0, .)", Scene::secrets, 6, (one, number) -> one.knows(0, number));
        refuses(Scene.secrets(2), "knows(3, 2)", INDEX, one -> one.knows(3, 2));
        refuses(Scene.secrets(2), "knows(-1, -1)", INDEX, one -> one.knows(-1, -1));
    }

    private void knowerCount() {
        sentence("P40", "Returns the number of passengers who know a secret.");
        answers(Scene.secrets(6), "knowerCount(5) of a new secret", 1, one -> one.knowerCount(5));
        for (int count = 2; count <= 8; count++) {
            Scene scene = aboard(count, 6).then("whisper(5, 1)", one -> one.whisper(5, 1));
            answers(scene, "knowerCount(5)", count, one -> one.knowerCount(5));
            answers(scene, "knowerCount(4)", 1, one -> one.knowerCount(4));
            answers(scene.then("alight(1)", one -> one.alight(1)), "knowerCount(5) of a truth", count,
                one -> one.knowerCount(5));
        }
    }

    private void knowerCountOfAMissingSecret() {
        sentence("P40", NO_SECRET);
        numbers("knowerCount", Scene::secrets, 6, TramNetwork::knowerCount);
    }

    private void order(Scene scene, int... due) {
        for (int rank = 0; rank < due.length; rank++) {
            int at = rank;
            answers(scene, "wisestPassenger(" + at + ")", due[at], one -> one.wisestPassenger(at));
        }
    }

    private void wisestInATie() {
        sentence("P41", "Returns a passenger in the order of the number of known secrets, the greatest number first;"
            + " passengers with equal numbers are ordered by their own numbers.");
        order(company(), 0, 1, 2, 3, 4, 5, 6, 7);
        order(company().then("a secret of each of 5 to 0", one -> {
            for (int passenger = 5; passenger >= 0; passenger--) {
                one.addSecret(passenger);
            }
        }), 0, 1, 2, 3, 4, 5, 6, 7);
        order(aboard(8, 1).then("all know one", one -> one.whisper(0, 7)), 0, 1, 2, 3, 4, 5, 6, 7);
        order(company().then("a secret of 7 and of 2", one -> {
            one.addSecret(7);
            one.addSecret(2);
        }), 2, 7, 0, 1, 3, 4, 5, 6);
    }

    private void wisestByNumberOfSecrets() {
        sentence("P41", "Returns a passenger in the order of the number of known secrets, the greatest number first;"
            + " passengers with equal numbers are ordered by their own numbers.");
        order(company().then("six secrets of 7", one -> Scene.times(6, () -> one.addSecret(7))), 7, 0, 1, 2, 3, 4, 5,
            6);
        order(company().then("three secrets of 6, two of 4, one of 1", one -> {
            Scene.times(3, () -> one.addSecret(6));
            Scene.times(2, () -> one.addSecret(4));
            one.addSecret(1);
        }), 6, 4, 1, 0, 2, 3, 5, 7);
        Scene truths = aboard(1, 2).then("a secret of 5, alight(0)", one -> {
            one.addSecret(5);
            one.alight(0);
        });
        order(truths, 0, 5, 1, 2, 3, 4, 6, 7);
    }

    private void firstAndLastRank() {
        sentence("P41", "`rank`: the rank, from 0");
        for (int count = 1; count <= 8; count++) {
            int last = count - 1;
            answers(Scene.passengers(count), "wisestPassenger(0)", 0, one -> one.wisestPassenger(0));
            answers(Scene.passengers(count), "wisestPassenger(" + last + ")", last, one -> one.wisestPassenger(last));
        }
    }

    private void missingRank() {
        sentence("P41", "Throws `NoSuchElementException` if there is no such rank");
        for (int count = 0; count <= 8; count++) {
            for (int rank : new int[] {-1, count, count + 1, 8, 9, 32, 256, Integer.MIN_VALUE, Integer.MAX_VALUE}) {
                refuses(Scene.passengers(count), "wisestPassenger(" + rank + ")", ELEMENT,
                    one -> one.wisestPassenger(rank));
            }
        }
        refuses(Scene.full(), "wisestPassenger(8)", ELEMENT, one -> one.wisestPassenger(8));
        refuses(Scene.passengers(8).then("undo", TramNetwork::undo), "wisestPassenger(7)", ELEMENT,
            one -> one.wisestPassenger(7));
    }
}

/** Promises 23 to 33, and what "Terms" says of passengers, tickets and boarding. */
final class BoundsOfPassengers extends Bounds {
    private static final String TICKET = "A passenger has a ticket, which is valid in a set of zones (initially empty)"
        + " and has a number of rides from 0 to 20 (initially 0).";
    private static final String FREE = "Boarding is free if it is a transfer: the passenger alighted from a tram"
        + " before, the line of the tram from which the passenger alighted last is not the line of the tram that is"
        + " boarded, and at most 1 tick has passed since that last alighting.";
    private static final String PAID = "Otherwise the ticket must be valid in the zone of the stop and must have at"
        + " least 1 ride, and 1 ride is used.";
    private static final String NO_PASSENGER = "Throws `IndexOutOfBoundsException` if there is no such passenger";

    BoundsOfPassengers(Check check) {
        super(check);
    }

    @Override
    Runnable[] tests() {
        return new Runnable[] {
            this::atMostEightPassengers, this::atAStopOrOnATram, this::zonesOfATicket, this::ridesOfATicket,
            this::newTicketWhereAnotherWas, this::boardingAtTheSameStop, this::transferToAnotherLineOnly,
            this::transferWithinOneTick, this::transferAfterAnAlightingOnly, this::transferByTheLastAlighting,
            this::eachPassengerAlone, this::noAlightingWhereAnotherPassengerWas, this::ticketForTheZone,
            this::atLeastOneRide, this::addingAPassenger, this::numberOfANewPassenger, this::passengerAtAMissingStop,
            this::ninePassengers, this::ticketInTheSameZoneTwice, this::zoneOfASale, this::ridesOfASale,
            this::ridesAfterASale, this::saleToAMissingPassenger, this::saleOutOfRange, this::moreThanTwentyRides,
            this::boardingAnswers, this::boardingOfAMissingPassengerOrTram, this::boardingFromATram,
            this::boardingElsewhere, this::boardingWithoutATicket, this::alighting, this::alightingFromEveryTram,
            this::alightingOfAMissingPassenger, this::alightingAtAStop, this::passengerCount, this::stopOfPassenger,
            this::stopOfAMissingPassenger, this::tramOfPassenger, this::tramOfAMissingPassenger, this::ridesOf,
            this::ridesOfAMissingPassenger, this::isValidIn, this::isValidInOfAMissingPassenger,
            this::isValidInAMissingZone, this::canBoard, this::canBoardOfAMissingPassengerOrTram, this::isTransfer,
            this::isTransferOnATram, this::isTransferOfAMissingPassengerOrLine,
        };
    }

    /** Line 0 is 0-1-2, line 1 is 0-1-3, line 2 is 4-0; trams 0 and 1 on line 0, tram 2 on line 1, 3 on line 2. */
    private static Scene crossing() {
        return Scene.stops(5).then("three lines, four trams, a passenger at stop 0", one -> {
            one.addLine(0, 1);
            one.extendLine(0, 2);
            one.addLine(0, 1);
            one.extendLine(1, 3);
            one.addLine(4, 0);
            for (int line : new int[] {0, 0, 1, 2}) {
                one.addTram(line);
            }
            one.addPassenger(0);
        });
    }

    private static Scene withTicket(int zone, int rides) {
        return crossing().then(rides + " rides in zone " + zone, one -> sell(one, zone, rides));
    }

    private static void sell(TramNetwork network, int zone, int rides) {
        for (int left = rides; left > 0; left -= 9) {
            network.sellTicket(0, zone, Math.min(left, 9));
        }
    }

    /** The passenger has alighted from tram 0, on line 0, and so many ticks have passed. */
    private static Scene alighted(int rides, int ticks) {
        return withTicket(0, rides).then("boarded and alighted from tram 0, " + ticks + " ticks", one -> {
            one.board(0, 0);
            one.alight(0);
            Scene.times(ticks, one::tick);
        });
    }

    private void atMostEightPassengers() {
        sentence("Terms", "There are at most 8 passengers, numbered from 0.");
        TramNetwork network = Scene.stops(10).make();
        for (int passenger = 0; passenger < 8; passenger++) {
            same("addPassenger", passenger, network.addPassenger(9 - passenger));
        }
        throwsOnly(Scene.passengers(8), "a ninth addPassenger", STATE, one -> one.addPassenger(0));
        for (int passenger = 0; passenger < 8; passenger++) {
            same("stopOfPassenger(" + passenger + ")", 9 - passenger, network.stopOfPassenger(passenger));
        }
        Scene refused = Scene.passengers(7).then("addPassenger(10)", one -> outcome(one, at -> at.addPassenger(10)));
        answers(refused, "a refused passenger takes no number: addPassenger(0)", 7, one -> one.addPassenger(0));
        answers(Scene.passengers(8).then("undo", TramNetwork::undo), "room again: addPassenger(1)", 7,
            one -> one.addPassenger(1));
    }

    private void atAStopOrOnATram() {
        sentence("Terms", "A passenger is either at a stop or on a tram.");
        Scene at = withTicket(0, 9);
        Scene on = at.then("board(0, 0)", one -> one.board(0, 0));
        Scene off = on.then("tick, alight(0)", one -> {
            one.tick();
            one.alight(0);
        });
        answers(at, "stopOfPassenger(0)", 0, one -> one.stopOfPassenger(0));
        answers(at, "tramOfPassenger(0)", -1, one -> one.tramOfPassenger(0));
        answers(on, "stopOfPassenger(0)", -1, one -> one.stopOfPassenger(0));
        answers(on, "tramOfPassenger(0)", 0, one -> one.tramOfPassenger(0));
        answers(off, "stopOfPassenger(0)", 1, one -> one.stopOfPassenger(0));
        answers(off, "tramOfPassenger(0)", -1, one -> one.tramOfPassenger(0));
    }

    private void zonesOfATicket() {
        sentence("Terms", TICKET);
        for (int sold = 0; sold < 16; sold++) {
            int zones = sold;
            Scene scene = Scene.passengers(8).then("tickets of passenger 7 in the zones of the bits of " + sold,
                one -> sellInZones(one, zones));
            for (int zone = 0; zone < 4; zone++) {
                int at = zone;
                answers(scene, "isValidIn(7, " + at + ")", (zones >> zone & 1) == 1, one -> one.isValidIn(7, at));
                answers(scene, "isValidIn(6, " + at + ")", false, one -> one.isValidIn(6, at));
                answers(scene, "isValidIn(0, " + at + ")", false, one -> one.isValidIn(0, at));
            }
        }
    }

    private static void sellInZones(TramNetwork network, int zones) {
        for (int zone = 0; zone < 4; zone++) {
            if ((zones >> zone & 1) == 1) {
                network.sellTicket(7, zone, 1);
            }
        }
    }

    private void ridesOfATicket() {
        sentence("Terms", TICKET);
        answers(crossing(), "ridesOf(0) of a new passenger", 0, one -> one.ridesOf(0));
        answers(withTicket(0, 20), "ridesOf(0)", 20, one -> one.ridesOf(0));
        throwsOnly(withTicket(0, 20), "a 21st ride", STATE, one -> one.sellTicket(0, 0, 1));
        answers(alighted(1, 0), "ridesOf(0) after the last ride", 0, one -> one.ridesOf(0));
        throwsOnly(alighted(1, 0), "a ride below 0", UNSUPPORTED, one -> one.board(0, 0));
        answers(alighted(1, 0), "ridesOf(0) after a transfer without rides", 0, one -> {
            one.board(0, 2);
            return one.ridesOf(0);
        });
    }

    private void newTicketWhereAnotherWas() {
        sentence("Terms", TICKET);
        Scene again = Scene.passengers(7).then("saved, a passenger with a ticket, restored, another passenger", one -> {
            one.save();
            one.addPassenger(0);
            for (int zone = 0; zone < 4; zone++) {
                one.sellTicket(7, zone, 5);
            }
            one.restore();
            one.addPassenger(0);
        });
        answers(again, "ridesOf(7)", 0, one -> one.ridesOf(7));
        for (int zone = 0; zone < 4; zone++) {
            int at = zone;
            answers(again, "isValidIn(7, " + at + ")", false, one -> one.isValidIn(7, at));
        }
    }

    private void boardingAtTheSameStop() {
        sentence("Terms", "A passenger at a stop can board a tram that is at the same stop.");
        for (int ticks = 0; ticks <= 4; ticks++) {
            int passed = ticks;
            Scene scene = withTicket(0, 9).then(ticks + " ticks", one -> Scene.times(passed, one::tick));
            boolean there = ticks % 4 == 0;
            answers(scene, "board(0, 0)", there ? true : ELEMENT.getSimpleName(), one -> one.board(0, 0));
            answers(scene, "board(0, 2)", there ? true : ELEMENT.getSimpleName(), one -> one.board(0, 2));
            answers(scene, "board(0, 3)", ticks % 2 == 1 ? true : ELEMENT.getSimpleName(), one -> one.board(0, 3));
        }
        Scene on = withTicket(0, 9).then("board(0, 0)", one -> one.board(0, 0));
        throwsOnly(on, "board(0, 1) from a tram at the same stop", STATE, one -> one.board(0, 1));
    }

    private void transferToAnotherLineOnly() {
        sentence("Terms", FREE);
        answers(alighted(2, 0), "the same tram: board(0, 0)", true, one -> one.board(0, 0));
        answers(alighted(2, 0), "another tram of the same line: board(0, 1)", true, one -> one.board(0, 1));
        answers(alighted(2, 0), "another line: board(0, 2)", false, one -> one.board(0, 2));
        answers(alighted(2, 0), "the rides of a transfer", 1, one -> {
            one.board(0, 2);
            return one.ridesOf(0);
        });
        answers(alighted(1, 0), "without rides: board(0, 2)", false, one -> one.board(0, 2));
        Scene otherZone = crossing().then("boarded in zone 0, alighted in zone 1", one -> {
            one.sellTicket(0, 0, 9);
            one.board(0, 0);
            one.tick();
            one.alight(0);
        });
        answers(otherZone, "in a zone without a ticket: board(0, 2)", false, one -> one.board(0, 2));
        throwsOnly(otherZone, "the same line, in a zone without a ticket: board(0, 1)", UNSUPPORTED,
            one -> one.board(0, 1));
    }

    private void transferWithinOneTick() {
        sentence("Terms", FREE);
        answers(alighted(2, 0), "no tick has passed: board(0, 2)", false, one -> one.board(0, 2));
        answers(alighted(2, 1), "1 tick has passed: board(0, 3)", false, one -> one.board(0, 3));
        answers(alighted(2, 2), "2 ticks have passed: isTransfer(0, 1)", false, one -> one.isTransfer(0, 1));
        answers(alighted(2, 3), "3 ticks have passed: board(0, 3)", true, one -> one.board(0, 3));
        answers(alighted(2, 4), "4 ticks have passed: board(0, 2)", true, one -> one.board(0, 2));
        throwsOnly(alighted(1, 3), "3 ticks have passed, without rides: board(0, 3)", UNSUPPORTED,
            one -> one.board(0, 3));
        Scene two = Scene.stops(2).then("2 lines, a passenger rides line 0 and waits for 2 ticks", one -> {
            one.addLine(0, 1);
            one.addLine(0, 1);
            one.addTram(0);
            one.addTram(1);
            one.addPassenger(0);
            one.sellTicket(0, 0, 2);
            one.board(0, 0);
            one.alight(0);
            one.tick();
            one.tick();
        });
        answers(two, "2 ticks have passed: board(0, 1)", true, one -> one.board(0, 1));
        answers(two.then("undo", TramNetwork::undo), "1 tick has passed: isTransfer(0, 1)", true,
            one -> one.isTransfer(0, 1));
        Scene riding = withTicket(0, 1).then("a ride of 2 ticks", one -> {
            one.board(0, 0);
            one.tick();
            one.tick();
            one.alight(0);
        });
        answers(riding, "the ticks before the alighting do not count: isTransfer(0, 1)", true,
            one -> one.isTransfer(0, 1));
    }

    private void transferAfterAnAlightingOnly() {
        sentence("Terms", FREE);
        for (int ticks = 0; ticks <= 2; ticks++) {
            int passed = ticks;
            Scene scene = crossing().then(ticks + " ticks", one -> Scene.times(passed, one::tick));
            for (int line = 0; line < 3; line++) {
                int at = line;
                answers(scene, "never alighted: isTransfer(0, " + at + ")", false, one -> one.isTransfer(0, at));
            }
        }
        throwsOnly(crossing(), "never alighted: board(0, 2)", UNSUPPORTED, one -> one.board(0, 2));
        answers(withTicket(0, 1), "never alighted: board(0, 2)", true, one -> one.board(0, 2));
        Scene other = alighted(1, 0).then("another passenger", one -> one.addPassenger(0));
        throwsOnly(other, "another passenger has alighted: board(1, 2)", UNSUPPORTED, one -> one.board(1, 2));
    }

    private void transferByTheLastAlighting() {
        sentence("Terms", FREE);
        Scene second = alighted(2, 0).then("board(0, 2), alight(0)", one -> {
            one.board(0, 2);
            one.alight(0);
        });
        answers(second, "isTransfer to the line of the last alighting", false, one -> one.isTransfer(0, 1));
        answers(second, "isTransfer to the line of the alighting before", true, one -> one.isTransfer(0, 0));
        answers(second, "board(0, 0)", false, one -> one.board(0, 0));
        answers(second, "board(0, 2)", true, one -> one.board(0, 2));
        Scene later = alighted(2, 1).then("board(0, 3), alight(0), tick", one -> {
            one.board(0, 3);
            one.alight(0);
            one.tick();
        });
        answers(later, "1 tick since the last alighting: isTransfer(0, 0)", true, one -> one.isTransfer(0, 0));
        answers(later.then("tick", TramNetwork::tick), "2 ticks since the last alighting: isTransfer(0, 0)", false,
            one -> one.isTransfer(0, 0));
    }

    private void eachPassengerAlone() {
        sentence("Terms", FREE);
        Scene scene = Scene.stops(4).then("passengers 0 to 7, of whom 7 left line 1 and 5 left line 0", one -> {
            one.addLine(0, 1);
            one.addLine(0, 2);
            one.addLine(0, 3);
            Scene.times(3, () -> one.addTram(one.tramCount()));
            Scene.times(8, () -> one.addPassenger(0));
            one.sellTicket(5, 0, 2);
            one.sellTicket(7, 0, 2);
            one.board(7, 1);
            one.alight(7);
            one.tick();
            one.tick();
            one.board(5, 0);
            one.alight(5);
        });
        for (int ticks = 0; ticks <= 2; ticks++) {
            int passed = ticks;
            Scene later = scene.then(ticks + " ticks", one -> Scene.times(passed, one::tick));
            for (int passenger = 0; passenger < 8; passenger++) {
                for (int line = 0; line < 3; line++) {
                    int who = passenger;
                    int at = line;
                    answers(later, "isTransfer(" + who + ", " + at + ")", who == 5 && at != 0 && passed < 2,
                        one -> one.isTransfer(who, at));
                }
            }
        }
        answers(scene, "board(5, 2)", false, one -> one.board(5, 2));
        answers(scene, "board(7, 2)", true, one -> one.board(7, 2));
        throwsOnly(scene, "board(6, 2)", UNSUPPORTED, one -> one.board(6, 2));
        throwsOnly(scene, "board(0, 2)", UNSUPPORTED, one -> one.board(0, 2));
    }

    private void noAlightingWhereAnotherPassengerWas() {
        sentence("Terms", FREE);
        Scene again = crossing().then("saved, another passenger rides, restored, one more passenger", one -> {
            one.save();
            one.addPassenger(0);
            one.sellTicket(1, 0, 9);
            one.board(1, 0);
            one.alight(1);
            one.restore();
            one.addPassenger(0);
        });
        for (int line = 0; line < 3; line++) {
            int at = line;
            answers(again, "isTransfer(1, " + at + ")", false, one -> one.isTransfer(1, at));
        }
        throwsOnly(again, "board(1, 2)", UNSUPPORTED, one -> one.board(1, 2));
    }

    private void ticketForTheZone() {
        sentence("Terms", PAID);
        for (int zone = 0; zone < 4; zone++) {
            int at = zone;
            Scene scene = Scene.stops(8).then("a tram and a passenger in zone " + zone, one -> {
                one.addTram(one.addLine(at + 4, (at + 1) % 4));
                one.addPassenger(at + 4);
            });
            Scene others = scene.then("tickets in the other zones", one -> {
                for (int other = 0; other < 4; other++) {
                    if (other != at) {
                        one.sellTicket(0, other, 5);
                    }
                }
            });
            throwsOnly(others, "board(0, 0)", UNSUPPORTED, one -> one.board(0, 0));
            answers(scene.then("a ticket in this zone", one -> one.sellTicket(0, at, 1)), "board(0, 0)", true,
                one -> one.board(0, 0));
        }
    }

    private void atLeastOneRide() {
        sentence("Terms", PAID);
        for (int rides = 1; rides <= 20; rides++) {
            int left = rides - 1;
            answers(withTicket(0, rides), "ridesOf(0) after board(0, 0)", left, one -> {
                one.board(0, 0);
                return one.ridesOf(0);
            });
        }
        throwsOnly(crossing(), "no ticket: board(0, 0)", UNSUPPORTED, one -> one.board(0, 0));
        throwsOnly(alighted(1, 0), "valid, but no rides: board(0, 0)", UNSUPPORTED, one -> one.board(0, 0));
        answers(alighted(2, 0), "the last ride: board(0, 0)", true, one -> one.board(0, 0));
        answers(alighted(2, 0), "the ride of board(0, 0) after an alighting", 0, one -> {
            one.board(0, 0);
            return one.ridesOf(0);
        });
    }

    private void addingAPassenger() {
        sentence("P23", "Adds a passenger.");
        for (int stop = 0; stop < 10; stop++) {
            int at = stop;
            Scene scene = Scene.stops(10).then("addPassenger(" + stop + ")", one -> one.addPassenger(at));
            answers(scene, "stopOfPassenger(0)", at, one -> one.stopOfPassenger(0));
            answers(scene, "tramOfPassenger(0)", -1, one -> one.tramOfPassenger(0));
            answers(scene, "passengerCount()", 1, TramNetwork::passengerCount);
        }
    }

    private void numberOfANewPassenger() {
        sentence("P23", "Returns the number of the passenger.");
        for (int count = 0; count < 8; count++) {
            answers(Scene.passengers(count), "addPassenger(9)", count, one -> one.addPassenger(9));
        }
    }

    private void passengerAtAMissingStop() {
        sentence("P23", "Throws `IndexOutOfBoundsException` if there is no such stop");
        numbers("addPassenger", Scene::stops, 10, TramNetwork::addPassenger);
        refuses(Scene.passengers(8), "addPassenger(10)", INDEX, one -> one.addPassenger(10));
        refuses(Scene.passengers(8), "addPassenger(-1)", INDEX, one -> one.addPassenger(-1));
    }

    private void ninePassengers() {
        sentence("P23", "Throws `IllegalStateException` if there are 8 passengers");
        answers(Scene.passengers(7), "addPassenger(0)", 7, one -> one.addPassenger(0));
        refuses(Scene.passengers(8), "addPassenger(0)", STATE, one -> one.addPassenger(0));
        refuses(Scene.passengers(8), "addPassenger(9)", STATE, one -> one.addPassenger(9));
        refuses(Scene.full(), "addPassenger(9)", STATE, one -> one.addPassenger(9));
    }

    private void ticketInTheSameZoneTwice() {
        sentence("P24", "Makes a ticket valid in a zone, if it is not valid there yet, and adds rides to it.");
        Scene twice = withTicket(3, 2).then("1 ride more in zone 3", one -> one.sellTicket(0, 3, 1));
        answers(twice, "isValidIn(0, 3)", true, one -> one.isValidIn(0, 3));
        answers(twice, "isValidIn(0, 2)", false, one -> one.isValidIn(0, 2));
        answers(twice, "isValidIn(0, 0)", false, one -> one.isValidIn(0, 0));
        answers(twice, "ridesOf(0)", 3, one -> one.ridesOf(0));
        Scene first = Scene.passengers(8).then("a ticket of passenger 7", one -> one.sellTicket(7, 0, 9));
        answers(first, "ridesOf(7)", 9, one -> one.ridesOf(7));
        answers(first, "ridesOf(6)", 0, one -> one.ridesOf(6));
    }

    private void zoneOfASale() {
        sentence("P24", "`zone`: the zone, 0 to 3");
        for (int zone = -1; zone <= 4; zone++) {
            int at = zone;
            if (zone < 0 || zone > 3) {
                throwsOnly(crossing(), "sellTicket(0, " + zone + ", 1)", ARGUMENT, one -> one.sellTicket(0, at, 1));
            } else {
                answers(crossing(), "isValidIn after sellTicket(0, " + zone + ", 1)", true, one -> {
                    one.sellTicket(0, at, 1);
                    return one.isValidIn(0, at);
                });
            }
        }
    }

    private void ridesOfASale() {
        sentence("P24", "`rides`: the number of rides, 1 to 9");
        for (int rides = 1; rides <= 9; rides++) {
            int sold = rides;
            answers(crossing(), "sellTicket(0, 0, " + rides + ")", rides, one -> one.sellTicket(0, 0, sold));
        }
        throwsOnly(crossing(), "sellTicket(0, 0, 0)", ARGUMENT, one -> one.sellTicket(0, 0, 0));
        throwsOnly(crossing(), "sellTicket(0, 0, -1)", ARGUMENT, one -> one.sellTicket(0, 0, -1));
        throwsOnly(crossing(), "sellTicket(0, 0, 10)", ARGUMENT, one -> one.sellTicket(0, 0, 10));
        throwsOnly(withTicket(0, 9), "sellTicket(0, 0, -1)", ARGUMENT, one -> one.sellTicket(0, 0, -1));
    }

    private void ridesAfterASale() {
        sentence("P24", "Returns the number of rides of the ticket afterwards.");
        for (int before = 0; before < 20; before++) {
            int rides = before;
            answers(withTicket(0, before), "sellTicket(0, 2, 1)", rides + 1, one -> one.sellTicket(0, 2, 1));
        }
        answers(withTicket(0, 11), "sellTicket(0, 2, 9)", 20, one -> one.sellTicket(0, 2, 9));
        answers(alighted(5, 0), "sellTicket(0, 2, 9) after a ride", 13, one -> one.sellTicket(0, 2, 9));
        for (int passenger = 0; passenger < 8; passenger++) {
            int to = passenger;
            Scene each = Scene.passengers(8).then("as many rides as their numbers and one", one -> {
                for (int other = 0; other < 8; other++) {
                    one.sellTicket(other, 0, other + 1);
                }
            });
            answers(each, "sellTicket(" + to + ", 0, 9)", to + 10, one -> one.sellTicket(to, 0, 9));
            answers(each, "ridesOf(" + to + ")", to + 1, one -> one.ridesOf(to));
        }
    }

    private void saleToAMissingPassenger() {
        sentence("P24", NO_PASSENGER);
        numbers("sellTicket(., 0, 1)", Scene::passengers, 8, (one, number) -> one.sellTicket(number, 0, 1));
        refuses(crossing(), "sellTicket(1, 4, 1)", INDEX, one -> one.sellTicket(1, 4, 1));
        refuses(crossing(), "sellTicket(-1, 0, 0)", INDEX, one -> one.sellTicket(-1, 0, 0));
    }

    private void saleOutOfRange() {
        sentence("P24", "Throws `IllegalArgumentException` if the zone or the number of rides is out of range");
        for (Scene scene : new Scene[] {crossing(), withTicket(0, 20)}) {
            for (int zone : new int[] {-1, 4, Integer.MIN_VALUE, Integer.MAX_VALUE, 32, 256}) {
                refuses(scene, "sellTicket(0, " + zone + ", 1)", ARGUMENT, one -> one.sellTicket(0, zone, 1));
                refuses(scene, "sellTicket(0, " + zone + ", 9)", ARGUMENT, one -> one.sellTicket(0, zone, 9));
            }
            for (int rides : new int[] {0, -1, 10, Integer.MIN_VALUE, Integer.MAX_VALUE, 257, 21, -20}) {
                refuses(scene, "sellTicket(0, 0, " + rides + ")", ARGUMENT, one -> one.sellTicket(0, 0, rides));
                refuses(scene, "sellTicket(0, 3, " + rides + ")", ARGUMENT, one -> one.sellTicket(0, 3, rides));
            }
            refuses(scene, "sellTicket(0, 4, 10)", ARGUMENT, one -> one.sellTicket(0, 4, 10));
        }
        answers(crossing(), "sellTicket(0, 3, 9)", 9, one -> one.sellTicket(0, 3, 9));
        answers(crossing(), "sellTicket(0, 0, 1)", 1, one -> one.sellTicket(0, 0, 1));
    }

    private void moreThanTwentyRides() {
        sentence("P24", "Throws `IllegalStateException` if the ticket would have more than 20 rides");
        for (int rides = 1; rides <= 9; rides++) {
            int sold = rides;
            answers(withTicket(0, 20 - rides), "sellTicket(0, 1, " + rides + ")", 20,
                one -> one.sellTicket(0, 1, sold));
            refuses(withTicket(0, 21 - rides), "sellTicket(0, 1, " + rides + ")", STATE,
                one -> one.sellTicket(0, 1, sold));
            refuses(withTicket(0, 20), "sellTicket(0, 0, " + rides + ")", STATE, one -> one.sellTicket(0, 0, sold));
        }
        answers(alighted(20, 0), "room for 1 ride after a ride", 20, one -> one.sellTicket(0, 0, 1));
        refuses(alighted(20, 0), "sellTicket(0, 3, 2)", STATE, one -> one.sellTicket(0, 3, 2));
        refuses(Scene.full(), "sellTicket(0, 3, 1)", STATE, one -> one.sellTicket(0, 3, 1));
    }

    private void boardingAnswers() {
        sentence("P25", "Returns whether a ride was used, false for a transfer.");
        answers(withTicket(0, 1), "the first boarding: board(0, 0)", true, one -> one.board(0, 0));
        answers(alighted(9, 0), "a transfer with a valid ticket: board(0, 2)", false, one -> one.board(0, 2));
        answers(alighted(9, 0), "ridesOf(0) after it", 8, one -> {
            one.board(0, 2);
            return one.ridesOf(0);
        });
        answers(alighted(9, 1), "1 tick later: board(0, 3)", false, one -> one.board(0, 3));
        answers(alighted(9, 3), "3 ticks later: board(0, 3)", true, one -> one.board(0, 3));
        answers(alighted(9, 3), "ridesOf(0) after it", 7, one -> {
            one.board(0, 3);
            return one.ridesOf(0);
        });
        answers(alighted(9, 0), "the same line: board(0, 1)", true, one -> one.board(0, 1));
    }

    private void boardingOfAMissingPassengerOrTram() {
        sentence("P25", "Throws `IndexOutOfBoundsException` if there is no such passenger or tram");
        numbers("board(., 0)", Scene::passengers, 8, (one, number) -> one.board(number, 0));
        numbers("board(0, .)", count -> Scene.trams(count).then("a passenger", one -> one.addPassenger(0)), 6,
            (one, number) -> one.board(0, number));
        refuses(crossing(), "board(1, 4)", INDEX, one -> one.board(1, 4));
        Scene on = withTicket(0, 9).then("board(0, 0)", one -> one.board(0, 0));
        refuses(on, "board(0, 4) from a tram", INDEX, one -> one.board(0, 4));
        refuses(on, "board(0, -1) from a tram", INDEX, one -> one.board(0, -1));
    }

    private void boardingFromATram() {
        sentence("P25", "Throws `IllegalStateException` if the passenger is on a tram");
        Scene on = withTicket(0, 9).then("board(0, 0)", one -> one.board(0, 0));
        for (int tram = 0; tram < 4; tram++) {
            int at = tram;
            refuses(on, "board(0, " + at + ")", STATE, one -> one.board(0, at));
            refuses(on.then("tick", TramNetwork::tick), "board(0, " + at + ")", STATE, one -> one.board(0, at));
        }
        Scene transferred = alighted(1, 0).then("board(0, 2)", one -> one.board(0, 2));
        refuses(transferred, "board(0, 0)", STATE, one -> one.board(0, 0));
        Scene last = Scene.passengers(8).then("passenger 7 on tram 1", one -> {
            one.sellTicket(7, 0, 2);
            one.board(7, 1);
        });
        refuses(last, "board(7, 0)", STATE, one -> one.board(7, 0));
        refuses(last, "board(7, 1)", STATE, one -> one.board(7, 1));
    }

    private void boardingElsewhere() {
        sentence("P25", "Throws `NoSuchElementException` if the tram is not at the stop of the passenger");
        refuses(crossing(), "board(0, 3), without a ticket", ELEMENT, one -> one.board(0, 3));
        refuses(withTicket(0, 9), "board(0, 3)", ELEMENT, one -> one.board(0, 3));
        refuses(alighted(9, 0), "board(0, 3), as a transfer", ELEMENT, one -> one.board(0, 3));
        for (int ticks = 1; ticks <= 3; ticks++) {
            int passed = ticks;
            Scene away = withTicket(0, 9).then(ticks + " ticks", one -> Scene.times(passed, one::tick));
            refuses(away, "board(0, 0)", ELEMENT, one -> one.board(0, 0));
        }
        Scene end = Scene.passengers(1).then("a ticket, 2 ticks, another passenger at stop 1", one -> {
            one.sellTicket(0, 0, 9);
            one.tick();
            one.tick();
            one.addPassenger(1);
        });
        refuses(end, "board(1, 0) when the tram is one stop farther", ELEMENT, one -> one.board(1, 0));
    }

    private void boardingWithoutATicket() {
        sentence("P25", "Throws `UnsupportedOperationException` if the boarding is not a transfer, and the ticket is"
            + " not valid in the zone of the stop or has no rides");
        refuses(crossing(), "neither valid nor rides: board(0, 0)", UNSUPPORTED, one -> one.board(0, 0));
        refuses(alighted(1, 0), "valid, but no rides: board(0, 0)", UNSUPPORTED, one -> one.board(0, 0));
        for (int zone = 1; zone < 4; zone++) {
            refuses(withTicket(zone, 20), "rides, but not valid: board(0, 0)", UNSUPPORTED, one -> one.board(0, 0));
        }
        refuses(alighted(1, 4), "too late for a transfer, no rides: board(0, 2)", UNSUPPORTED,
            one -> one.board(0, 2));
        Scene otherZones = withTicket(1, 9).then("1 ride in zone 2", one -> one.sellTicket(0, 2, 1));
        refuses(otherZones, "rides in zones 1 and 2 only: board(0, 2)", UNSUPPORTED, one -> one.board(0, 2));
        answers(withTicket(0, 1), "1 ride: board(0, 0)", true, one -> one.board(0, 0));
        answers(alighted(1, 0), "no rides, but a transfer: board(0, 2)", false, one -> one.board(0, 2));
    }

    private void alighting() {
        sentence("P26", "Returns the number of the stop.");
        Scene on = withTicket(0, 9).then("board(0, 0)", one -> one.board(0, 0));
        int[] due = {0, 1, 2, 1, 0, 1};
        for (int ticks = 0; ticks < due.length; ticks++) {
            int passed = ticks;
            Scene scene = on.then(ticks + " ticks", one -> Scene.times(passed, one::tick));
            answers(scene, "alight(0)", due[ticks], one -> one.alight(0));
            answers(scene.then("alight(0)", one -> one.alight(0)), "stopOfPassenger(0)", due[ticks],
                one -> one.stopOfPassenger(0));
        }
        Scene full = Scene.full().then("4 ticks", one -> Scene.times(4, one::tick));
        answers(full, "alight(7)", 5, one -> one.alight(7));
    }

    private void alightingFromEveryTram() {
        sentence("P26", "Lets a passenger alight at the stop of the tram.");
        Scene scene = Scene.stops(10).then("trams 0 to 5 on five lines, a passenger on each", one -> {
            for (int line = 0; line < 5; line++) {
                one.addLine(line, 9 - line);
                one.extendLine(line, (line + 1) % 5);
            }
            for (int tram = 0; tram < 6; tram++) {
                int stop = (4 * tram + 1) % 5;
                one.addTram(stop);
                one.addPassenger(stop);
                one.sellTicket(tram, stop % 4, 1);
                one.board(tram, tram);
            }
        });
        for (int ticks = 0; ticks <= 4; ticks++) {
            int passed = ticks;
            for (int passenger = 0; passenger < 6; passenger++) {
                int who = passenger;
                int line = (4 * who + 1) % 5;
                int[] due = {line, 9 - line, (line + 1) % 5, 9 - line, line};
                Scene off = scene.then(ticks + " ticks", one -> Scene.times(passed, one::tick));
                answers(off, "alight(" + who + ")", due[passed], one -> one.alight(who));
                Scene alighted = off.then("alight(" + who + ")", one -> one.alight(who));
                answers(alighted, "stopOfPassenger(" + who + ")", due[passed], one -> one.stopOfPassenger(who));
                for (int other = 0; other < 5; other++) {
                    int to = other;
                    answers(alighted, "isTransfer(" + who + ", " + to + ")", to != line,
                        one -> one.isTransfer(who, to));
                }
            }
        }
    }

    private void alightingOfAMissingPassenger() {
        sentence("P26", NO_PASSENGER);
        numbers("alight", Scene::passengers, 8, TramNetwork::alight);
    }

    private void alightingAtAStop() {
        sentence("P26", "Throws `IllegalStateException` if the passenger is not on a tram");
        for (int passenger = 0; passenger < 8; passenger++) {
            int at = passenger;
            refuses(Scene.passengers(8), "alight(" + at + ") of a new passenger", STATE, one -> one.alight(at));
        }
        refuses(alighted(9, 0), "alight(0) twice", STATE, one -> one.alight(0));
        refuses(Scene.full(), "alight(0)", STATE, one -> one.alight(0));
        answers(withTicket(0, 1).then("board(0, 0)", one -> one.board(0, 0)), "alight(0)", 0, one -> one.alight(0));
    }

    private void passengerCount() {
        sentence("P27", "Returns the number of passengers.");
        for (int count = 0; count <= 8; count++) {
            answers(Scene.passengers(count), "passengerCount()", count, TramNetwork::passengerCount);
        }
        answers(Scene.full(), "passengerCount() with some on trams", 8, TramNetwork::passengerCount);
        answers(Scene.passengers(1).then("undo", TramNetwork::undo), "passengerCount()", 0,
            TramNetwork::passengerCount);
    }

    private void stopOfPassenger() {
        sentence("P28", "Returns the number of the stop, -1 if the passenger is on a tram.");
        answers(Scene.full(), "stopOfPassenger(0)", 0, one -> one.stopOfPassenger(0));
        answers(Scene.full(), "stopOfPassenger(7)", -1, one -> one.stopOfPassenger(7));
        Scene last = Scene.stops(10).then("passengers at stops 0 and 9", one -> {
            one.addPassenger(0);
            one.addPassenger(9);
        });
        answers(last, "stopOfPassenger(0)", 0, one -> one.stopOfPassenger(0));
        answers(last, "stopOfPassenger(1)", 9, one -> one.stopOfPassenger(1));
    }

    private void stopOfAMissingPassenger() {
        sentence("P28", NO_PASSENGER);
        numbers("stopOfPassenger", Scene::passengers, 8, TramNetwork::stopOfPassenger);
    }

    private void tramOfPassenger() {
        sentence("P29", "Returns the number of the tram, -1 if the passenger is at a stop.");
        int[] due = {-1, -1, 0, 5, 0, 5, 0, 5};
        for (int passenger = 0; passenger < 8; passenger++) {
            int at = passenger;
            answers(Scene.full(), "tramOfPassenger(" + at + ")", due[at], one -> one.tramOfPassenger(at));
        }
        answers(Scene.full().then("alight(7)", one -> one.alight(7)), "tramOfPassenger(7)", -1,
            one -> one.tramOfPassenger(7));
    }

    private void tramOfAMissingPassenger() {
        sentence("P29", NO_PASSENGER);
        numbers("tramOfPassenger", Scene::passengers, 8, TramNetwork::tramOfPassenger);
    }

    private void ridesOf() {
        sentence("P30", "Returns the number of rides.");
        answers(Scene.passengers(8), "ridesOf(7)", 0, one -> one.ridesOf(7));
        for (int rides = 0; rides <= 20; rides++) {
            answers(withTicket(0, rides), "ridesOf(0)", rides, one -> one.ridesOf(0));
        }
        answers(Scene.full(), "ridesOf(1) at a stop", 20, one -> one.ridesOf(1));
        answers(Scene.full(), "ridesOf(7) on a tram", 19, one -> one.ridesOf(7));
    }

    private void ridesOfAMissingPassenger() {
        sentence("P30", NO_PASSENGER);
        numbers("ridesOf", Scene::passengers, 8, TramNetwork::ridesOf);
    }

    private void isValidIn() {
        sentence("P31", "Returns whether it is valid.");
        for (int zone = 0; zone < 4; zone++) {
            for (int asked = 0; asked < 4; asked++) {
                int at = asked;
                answers(withTicket(zone, 1), "isValidIn(0, " + at + ")", zone == at, one -> one.isValidIn(0, at));
                answers(crossing(), "isValidIn(0, " + at + ")", false, one -> one.isValidIn(0, at));
            }
        }
        answers(alighted(1, 0), "without rides: isValidIn(0, 0)", true, one -> one.isValidIn(0, 0));
    }

    private void isValidInOfAMissingPassenger() {
        sentence("P31", NO_PASSENGER);
        numbers("isValidIn(., 0)", Scene::passengers, 8, (one, number) -> one.isValidIn(number, 0));
        refuses(crossing(), "isValidIn(1, 4)", INDEX, one -> one.isValidIn(1, 4));
        refuses(crossing(), "isValidIn(-1, -1)", INDEX, one -> one.isValidIn(-1, -1));
    }

    private void isValidInAMissingZone() {
        sentence("P31", "Throws `IllegalArgumentException` if the zone is out of range");
        for (int zone : new int[] {-1, 4, Integer.MIN_VALUE, Integer.MAX_VALUE, 32, 33, -31, 256, 65536}) {
            refuses(withTicket(0, 9), "isValidIn(0, " + zone + ")", ARGUMENT, one -> one.isValidIn(0, zone));
        }
        answers(withTicket(3, 9), "isValidIn(0, 3)", true, one -> one.isValidIn(0, 3));
        answers(withTicket(3, 9), "isValidIn(0, 0)", false, one -> one.isValidIn(0, 0));
    }

    private void canBoard() {
        sentence("P32", "Returns whether board would succeed.");
        Scene[] scenes = {Scene.town(), Scene.full(), crossing(), withTicket(0, 1), withTicket(1, 20), alighted(1, 0),
            alighted(1, 1), alighted(1, 2), alighted(2, 4), alighted(1, 4),
            withTicket(0, 2).then("board(0, 0)", one -> one.board(0, 0))};
        for (Scene scene : scenes) {
            TramNetwork counted = scene.make();
            for (int passenger = 0; passenger < counted.passengerCount(); passenger++) {
                for (int tram = 0; tram < counted.tramCount(); tram++) {
                    canBoard(scene, passenger, tram);
                }
            }
        }
        answers(crossing(), "canBoard(0, 0) without a ticket", false, one -> one.canBoard(0, 0));
        answers(withTicket(0, 1), "canBoard(0, 0)", true, one -> one.canBoard(0, 0));
        answers(withTicket(0, 1), "canBoard(0, 3) elsewhere", false, one -> one.canBoard(0, 3));
        answers(alighted(1, 0), "canBoard(0, 0) without rides", false, one -> one.canBoard(0, 0));
        answers(alighted(1, 0), "canBoard(0, 2) as a transfer", true, one -> one.canBoard(0, 2));
        answers(alighted(1, 1), "canBoard(0, 3) as a transfer", true, one -> one.canBoard(0, 3));
        answers(alighted(1, 3), "canBoard(0, 3) too late", false, one -> one.canBoard(0, 3));
    }

    private void canBoard(Scene scene, int passenger, int tram) {
        String boarded = outcome(scene.make(), one -> one.board(passenger, tram));
        answers(scene, "canBoard(" + passenger + ", " + tram + ")", !boarded.endsWith("Exception"),
            one -> one.canBoard(passenger, tram));
    }

    private void canBoardOfAMissingPassengerOrTram() {
        sentence("P32", "Throws `IndexOutOfBoundsException` if there is no such passenger or tram");
        numbers("canBoard(., 0)", Scene::passengers, 8, (one, number) -> one.canBoard(number, 0));
        numbers("canBoard(0, .)", count -> Scene.trams(count).then("a passenger", one -> one.addPassenger(0)), 6,
            (one, number) -> one.canBoard(0, number));
        Scene on = withTicket(0, 9).then("board(0, 0)", one -> one.board(0, 0));
        refuses(on, "canBoard(0, 4) from a tram", INDEX, one -> one.canBoard(0, 4));
        refuses(crossing(), "canBoard(1, 4)", INDEX, one -> one.canBoard(1, 4));
    }

    private void isTransfer() {
        sentence("P33", "Returns whether a passenger could board a tram of a line at the present tick as a transfer, if"
            + " such a tram was at the stop of the passenger.");
        boolean[][] due = {{false, true, true}, {false, true, true}, {false, false, false}, {false, false, false}};
        for (int ticks = 0; ticks < due.length; ticks++) {
            for (int line = 0; line < 3; line++) {
                int at = line;
                answers(alighted(1, ticks), "isTransfer(0, " + at + ")", due[ticks][line],
                    one -> one.isTransfer(0, at));
                answers(alighted(9, ticks), "isTransfer(0, " + at + ")", due[ticks][line],
                    one -> one.isTransfer(0, at));
            }
        }
        Scene nobody = alighted(1, 0).then("a line without trams and without this stop", one -> one.addLine(2, 3));
        answers(nobody, "isTransfer(0, 3)", true, one -> one.isTransfer(0, 3));
        alike("after isTransfer", nobody.portrait(), nobody.then("isTransfer(0, 3)", one -> one.isTransfer(0, 3)));
    }

    private void isTransferOnATram() {
        sentence("P33", "Returns whether it would be a transfer, false if the passenger is on a tram.");
        Scene back = alighted(2, 0).then("board(0, 0)", one -> one.board(0, 0));
        Scene transferred = alighted(2, 0).then("board(0, 2)", one -> one.board(0, 2));
        for (int line = 0; line < 3; line++) {
            int at = line;
            answers(back, "isTransfer(0, " + at + ")", false, one -> one.isTransfer(0, at));
            answers(transferred, "isTransfer(0, " + at + ")", false, one -> one.isTransfer(0, at));
            answers(withTicket(0, 1).then("board(0, 0)", one -> one.board(0, 0)), "isTransfer(0, " + at + ")", false,
                one -> one.isTransfer(0, at));
        }
    }

    private void isTransferOfAMissingPassengerOrLine() {
        sentence("P33", "Throws `IndexOutOfBoundsException` if there is no such passenger or line");
        numbers("isTransfer(., 0)", Scene::passengers, 8, (one, number) -> one.isTransfer(number, 0));
        numbers("isTransfer(0, .)", count -> Scene.lines(count).then("a passenger", one -> one.addPassenger(0)), 5,
            (one, number) -> one.isTransfer(0, number));
        refuses(alighted(2, 0), "isTransfer(0, 3)", INDEX, one -> one.isTransfer(0, 3));
        refuses(alighted(2, 0), "isTransfer(0, -1)", INDEX, one -> one.isTransfer(0, -1));
        Scene on = withTicket(0, 9).then("board(0, 0)", one -> one.board(0, 0));
        refuses(on, "isTransfer(0, 3) on a tram", INDEX, one -> one.isTransfer(0, 3));
    }
}

/** The sentences on the line (Terms 1, promises 1 to 7) that name a boundary case, each with a test of its own. */
public final class LineEdgesTest {
    private static final Checks C = new Checks();

    public static void main(String[] args) {
        anEmptyLine();
        theClockIsZeroAtFirst();
        stationsAreZeroToFive();
        platformsAreTwoAtFirst();
        platformsAreOneToFour();
        platformsBecomeFewerThanTheTrainsThere();
        platformsBecomeFewerThanTheTrainsOnTheirWay();
        roomIsOneFewer();
        blocksAreSixteen();
        lengthsAreOneToNine();
        routesAreSixteen();
        aRouteGoesToAnotherStation();
        aRowHasOneToFiveBlocks();
        noBlockIsTwiceInARow();
        aRouteOfATrainDoesNotGoOn();
        aRouteThatATrainCouldTakeGoesOn();
        shutForZeroTicks();
        shutForAHundredTicks();
        shutAsLongAsTheClockIsBelow();
        shutWhileItIsHeld();
        shutWhileItIsLocked();
        shutIsCountedFromNow();
        ordersAreZeroToTwo();
        aRefusedOrderKeepsOrderAndStay();
        C.end("LineEdgesTest");
    }

    /** "Creates a line without BLOCKS." */
    private static void anEmptyLine() {
        SemaphoreBay bay = new SemaphoreBay();
        C.same("1: no train is left over", bay.tick(60), 0);
        C.same("1: the clock goes on", bay.clock(), 60);
        for (int what = 0; what <= 6; what++) {
            C.same("1: none of " + what, bay.many(what), 0);
        }
        for (int order = 0; order <= 2; order++) {
            C.same("1: nobody would wait", bay.waitedWith(order, 120), 0);
        }
        C.same("1: nobody would be stuck", bay.stuckIn(120), -1);
        C.sameDouble("1: nobody is late", bay.meanLate(), 0.0);
        C.refused("1: no block 0", bay, Checks.INDEX, () -> bay.ofBlock(0, 0));
        C.refused("1: no block 0 to shut", bay, Checks.INDEX, () -> bay.lostBy(0, 1));
        C.refused("1: no route 0", bay, Checks.INDEX, () -> bay.ofRoute(0, 0));
        C.refused("1: no train 0", bay, Checks.INDEX, () -> bay.ofTrain(0, 0));
    }

    /** "The CLOCK is 0 at first." */
    private static void theClockIsZeroAtFirst() {
        SemaphoreBay bay = new SemaphoreBay();
        C.same("13: at first", bay.clock(), 0);
        bay.block(1);
        C.same("6: shut from clock 0", bay.shut(0, 1), 1);
        bay.tick(1);
        C.same("13: one tick", bay.clock(), 1);
        C.same("13: another object has its own", new SemaphoreBay().clock(), 0);
    }

    /** "There are the STATIONS 0 to 5" */
    private static void stationsAreZeroToFive() {
        SemaphoreBay bay = new SemaphoreBay();
        bay.block(1);
        for (int station = 0; station <= 5; station++) {
            C.same("2: there is " + station, bay.platforms(station, 2), 2);
            C.same("4: from " + station, bay.route(station, 5 - station, 0, false), station);
            C.same("8: at " + station, bay.train(0, 1, station, 0), station);
            C.same("9: to " + station, bay.stop(station, 5 - station, 0), 2);
        }
        for (int station : new int[] {-1, 6}) {
            C.refused("2: no " + station, bay, Checks.INDEX, () -> bay.platforms(station, 2));
            C.refused("4: from no " + station, bay, Checks.INDEX, () -> bay.route(station, 0, 0, false));
            C.refused("4: to no " + station, bay, Checks.INDEX, () -> bay.route(0, station, 0, false));
            C.refused("8: at no " + station, bay, Checks.INDEX, () -> bay.train(0, 1, station, 0));
            C.refused("9: to no " + station, bay, Checks.INDEX, () -> bay.stop(0, station, 0));
            C.refused("15: no " + station, bay, Checks.INDEX, () -> bay.station(station, 0));
        }
    }

    /** "each with 1 to 4 PLATFORMS (2 at first)" */
    private static void platformsAreTwoAtFirst() {
        SemaphoreBay bay = new SemaphoreBay();
        for (int station = 0; station <= 5; station++) {
            C.same("15: at first", bay.station(station, 0), 2);
            C.same("2: at first", bay.platforms(station, 4), 2);
            C.same("2: then", bay.platforms(station, 2), 4);
        }
        C.same("8: one", bay.train(0, 1, 5, 0), 0);
        C.same("8: two", bay.train(0, 1, 5, 0), 1);
        C.refused("8: three", bay, Checks.STATE, () -> bay.train(0, 1, 5, 0));
    }

    /** "if platforms is not 1 to 4" */
    private static void platformsAreOneToFour() {
        for (int platforms = 1; platforms <= 4; platforms++) {
            SemaphoreBay bay = new SemaphoreBay();
            bay.platforms(3, platforms);
            C.same("2: from now on", bay.station(3, 0), platforms);
            for (int train = 0; train < platforms; train++) {
                C.same("2: room for " + platforms, bay.train(0, 1, 3, 0), train);
            }
            C.refused("2: no room for one more", bay, Checks.STATE, () -> bay.train(0, 1, 3, 0));
            C.refused("2: 0", bay, Checks.ARGUMENT, () -> bay.platforms(3, 0));
            C.refused("2: 5", bay, Checks.ARGUMENT, () -> bay.platforms(3, 5));
        }
    }

    /** "its PLATFORMS from now on (TRAINS stay)" */
    private static void platformsBecomeFewerThanTheTrainsThere() {
        SemaphoreBay bay = new SemaphoreBay();
        for (int block = 0; block < 4; block++) {
            bay.block(1);
            bay.route(1, 0, block, false);
        }
        bay.block(1);
        bay.route(2, 1, 4, false);
        bay.platforms(1, 4);
        bay.platforms(0, 4);
        bay.order(0, 0);
        for (int train = 0; train < 4; train++) {
            Bays.runner(bay, 1, 1, 0);
            bay.holdBack(train, 2 * train + 2);
        }
        int fifth = Bays.runner(bay, 1, 2, 1);
        C.same("2: had four", bay.platforms(1, 1), 4);
        C.same("2: four trains stay", bay.station(1, 1), 4);
        C.same("2: on one platform", bay.station(1, 0), 1);
        C.refused("8: no room for a new one", bay, Checks.STATE, () -> bay.train(0, 1, 1, 0));
        for (int left = 4; left >= 1; left--) {
            bay.tick(1);
            C.same("2: those that stay", bay.station(1, 1), left);
            C.no("24: no room at " + bay.clock(), bay.isOpen(fifth, 4));
            C.same("22: no room is nobody's fault", bay.waitsFor(fifth), -1);
            C.same("12: it waits", bay.ofTrain(fifth, 9), bay.clock());
            bay.tick(1);
            C.same("2: they leave one by one", bay.station(1, 1), left - 1);
        }
        C.same("12: the last one leaves and the fifth sets out with this tick", bay.ofTrain(fifth, 6), 4);
    }

    /** "At the end of the last one it comes to the STATION at once": also if it has fewer PLATFORMS by then. */
    private static void platformsBecomeFewerThanTheTrainsOnTheirWay() {
        SemaphoreBay bay = Bays.row(false, 3);
        bay.block(3);
        bay.route(0, 1, 1, false);
        bay.platforms(1, 3);
        bay.train(0, 1, 1, 0);
        for (int train = 1; train <= 2; train++) {
            Bays.runner(bay, 1, 0, 1);
            bay.stop(train, 2, 9999);
        }
        bay.tick(1);
        C.same("15: two on their way", bay.station(1, 2), 2);
        C.same("2: fewer", bay.platforms(1, 1), 3);
        C.same("15: still on their way", bay.station(1, 2), 2);
        bay.tick(2);
        C.same("15: and still", bay.station(1, 2), 2);
        bay.tick(1);
        C.same("12: they come all the same", bay.station(1, 1), 3);
        C.same("12: none is on its way", bay.station(1, 2), 0);
        C.same("2: more again", bay.platforms(1, 3), 1);
        C.refused("8: just full", bay, Checks.STATE, () -> bay.train(0, 1, 1, 0));
        bay.platforms(1, 4);
        C.same("8: one more", bay.train(0, 1, 1, 0), 3);
    }

    /** "A STATION has ROOM, if the TRAINS AT it, and those ON ROUTES to it, are fewer than its PLATFORMS." */
    private static void roomIsOneFewer() {
        SemaphoreBay bay = Bays.row(false, 9);
        bay.block(1);
        bay.route(2, 1, 1, false);
        Bays.runner(bay, 1, 0, 1);
        bay.tick(1);
        bay.train(0, 1, 2, 0);
        C.yes("24: one on its way, of two", bay.isOpen(1, 1));
        bay.platforms(1, 1);
        C.no("24: one on its way, of one", bay.isOpen(1, 1));
        C.refused("8: one on its way, of one", bay, Checks.STATE, () -> bay.train(0, 1, 1, 0));
        bay.platforms(1, 3);
        C.same("8: one on its way, of three", bay.train(0, 1, 1, 0), 2);
        C.yes("24: one there and one on its way, of three", bay.isOpen(1, 1));
        bay.platforms(1, 2);
        C.no("24: one there and one on its way, of two", bay.isOpen(1, 1));
        C.no("24: also for the one that is there", bay.isOpen(2, 1));
        bay.platforms(1, 3);
        C.same("8: one there and one on its way, of three", bay.train(0, 1, 1, 0), 3);
        C.no("24: two there and one on its way, of three", bay.isOpen(1, 1));
        bay.tick(9);
        C.same("12: the one on its way is done", bay.many(3), 1);
        C.yes("24: one that is done takes no room", bay.isOpen(1, 1));
    }

    /** "At most 16 BLOCKS, numbered from 0" */
    private static void blocksAreSixteen() {
        SemaphoreBay bay = new SemaphoreBay();
        for (int number = 0; number < 16; number++) {
            C.refused("16: not yet " + number, bay, Checks.INDEX, () -> bay.ofBlock(bay.many(0), 0));
            C.same("3: number", bay.block(9 - number % 9), number);
        }
        C.refused("3: one more", bay, Checks.STATE, () -> bay.block(9));
        C.refused("3: one more, too long", bay, Checks.ARGUMENT, () -> bay.block(10));
        C.refused("3: one more, too short", bay, Checks.ARGUMENT, () -> bay.block(0));
        C.same("14: sixteen", bay.many(0), 16);
        for (int number = 0; number < 16; number++) {
            C.same("16: length of " + number, bay.ofBlock(number, 0), 9 - number % 9);
            C.same("16: not held", bay.ofBlock(number, 1), -1);
            C.same("16: not locked", bay.ofBlock(number, 2), -1);
            C.same("16: not shut", bay.ofBlock(number, 3), -1);
        }
        C.same("6: the last one can be shut", bay.shut(15, 100), 100);
        C.same("4: the last one can be on a route", bay.route(0, 5, 15, false), 0);
    }

    /** "each with a LENGTH, 1 to 9" */
    private static void lengthsAreOneToNine() {
        for (int length = 1; length <= 9; length++) {
            SemaphoreBay bay = Bays.row(true, length);
            Bays.runner(bay, 1, 0, 1);
            C.same("16: length", bay.ofBlock(0, 0), length);
            C.same("18: lengths together", bay.ofRoute(0, 4), length);
            C.same("26: out with the first tick, then as many", bay.doneIn(0, 120), length + 1);
        }
        SemaphoreBay bay = new SemaphoreBay();
        for (int length : new int[] {0, 10, -1, Integer.MAX_VALUE, Integer.MIN_VALUE}) {
            C.refused("3: " + length, bay, Checks.ARGUMENT, () -> bay.block(length));
        }
    }

    /** "At most 16 ROUTES, numbered from 0" */
    private static void routesAreSixteen() {
        SemaphoreBay bay = new SemaphoreBay();
        bay.block(1);
        bay.block(1);
        for (int number = 0; number < 16; number++) {
            C.refused("18: not yet " + number, bay, Checks.INDEX, () -> bay.ofRoute(bay.many(1), 0));
            C.same("4: number", bay.route(0, 1, number / 15, number == 15), number);
        }
        C.refused("4: one more", bay, Checks.STATE, () -> bay.route(2, 3, 0, true));
        C.refused("4: one more, to itself", bay, Checks.ARGUMENT, () -> bay.route(2, 2, 0, true));
        C.refused("4: one more, over no block", bay, Checks.INDEX, () -> bay.route(2, 2, 2, true));
        C.same("14: sixteen", bay.many(1), 16);
        C.same("18: the last one is whole", bay.ofRoute(15, 3), 1);
        C.same("18: the one ahead is not", bay.ofRoute(14, 3), 0);
        bay.order(0, 0);
        bay.shut(0, 2);
        Bays.runner(bay, 3, 0, 1);
        Bays.runner(bay, 3, 0, 1);
        bay.tick(1);
        C.same("12: only the last one is open", bay.ofTrain(0, 6), 15);
        bay.tick(1);
        C.same("12: of the fifteen that are open the first", bay.ofTrain(1, 6), 0);
    }

    /** "each goes from a STATION to another one" */
    private static void aRouteGoesToAnotherStation() {
        SemaphoreBay bay = new SemaphoreBay();
        bay.block(1);
        for (int station = 0; station <= 5; station++) {
            int from = station;
            C.refused("4: to itself", bay, Checks.ARGUMENT, () -> bay.route(from, from, 0, true));
            C.refused("4: to itself, no block", bay, Checks.INDEX, () -> bay.route(from, from, 1, true));
        }
        C.same("4: there", bay.route(0, 5, 0, true), 0);
        C.same("4: and back", bay.route(5, 0, 0, true), 1);
        C.same("4: there once more", bay.route(0, 5, 0, true), 2);
    }

    /** "over a row of 1 to 5 BLOCKS" */
    private static void aRowHasOneToFiveBlocks() {
        SemaphoreBay bay = new SemaphoreBay();
        for (int block = 0; block < 6; block++) {
            bay.block(block + 1);
        }
        bay.route(0, 1, 5, false);
        for (int count = 1; count <= 5; count++) {
            int more = count;
            C.same("18: how many", bay.ofRoute(0, 2), count);
            C.same("17: the last one", bay.onRoute(0, count - 1), count == 1 ? 5 : 5 - count);
            C.refused("17: no place " + count, bay, Checks.INDEX, () -> bay.onRoute(0, more));
            if (count < 5) {
                C.same("5: one more", bay.over(0, 4 - count), count + 1);
            }
        }
        C.refused("5: six", bay, Checks.STATE, () -> bay.over(0, 4));
        C.refused("5: six, no block", bay, Checks.INDEX, () -> bay.over(0, 6));
        C.same("18: five", bay.ofRoute(0, 2), 5);
        C.same("18: lengths together", bay.ofRoute(0, 4), 6 + 4 + 3 + 2 + 1);
    }

    /** "none twice", "if the BLOCK is on it already" */
    private static void noBlockIsTwiceInARow() {
        SemaphoreBay bay = Bays.row(true, 1, 1, 1, 1);
        bay.block(1);
        for (int block = 0; block < 4; block++) {
            int again = block;
            C.refused("5: of four, again " + block, bay, Checks.ARGUMENT, () -> bay.over(0, again));
        }
        C.same("5: another one", bay.over(0, 4), 5);
        for (int block = 0; block < 5; block++) {
            int again = block;
            C.refused("5: of five, again " + block, bay, Checks.ARGUMENT, () -> bay.over(0, again));
        }
        bay.route(1, 0, 4, false);
        C.same("5: on another route it may be", bay.over(1, 0), 2);
    }

    /** "or it is the ROUTE of a TRAIN now" */
    private static void aRouteOfATrainDoesNotGoOn() {
        for (int whole = 0; whole <= 1; whole++) {
            SemaphoreBay bay = Bays.row(whole == 1, 1, 1);
            bay.block(1);
            Bays.runner(bay, 2, 0, 1);
            bay.tick(1);
            for (int gone = 0; gone < 4; gone++) {
                C.same("19: its route", bay.ofTrain(0, 6), 0);
                C.refused("5: now", bay, Checks.STATE, () -> bay.over(0, 2));
                C.refused("5: now, and on it already", bay, Checks.ARGUMENT, () -> bay.over(0, 1));
                C.refused("5: now, and no block", bay, Checks.INDEX, () -> bay.over(0, 3));
                bay.tick(1);
            }
            C.same("12: it came", bay.many(3), 1);
            C.same("5: not now", bay.over(0, 2), 3);
        }
        SemaphoreBay stands = Bays.row(false, 1, 1);
        stands.block(1);
        stands.shut(1, 100);
        Bays.runner(stands, 1, 0, 1);
        stands.tick(9);
        C.same("12: it stands", stands.ofTrain(0, 11), 1);
        C.refused("5: it stands on it", stands, Checks.STATE, () -> stands.over(0, 2));
        SemaphoreBay last = Bays.row(false, 9);
        last.block(1);
        for (int train = 0; train < 7; train++) {
            last.train(0, 1, train / 2 + 2, 0);
        }
        Bays.runner(last, 1, 0, 1);
        last.tick(1);
        C.refused("5: the route of the eighth train", last, Checks.STATE, () -> last.over(0, 1));
    }

    /** "or it is the ROUTE of a TRAIN now": one that is READY in its STATION has none yet. */
    private static void aRouteThatATrainCouldTakeGoesOn() {
        SemaphoreBay bay = Bays.row(false, 1);
        bay.block(1);
        bay.block(1);
        bay.route(0, 1, 0, false);
        Bays.runner(bay, 1, 0, 1);
        C.same("19: ready", bay.ofTrain(0, 10), 1);
        C.same("5: it could take it", bay.over(0, 1), 2);
        bay.tick(1);
        C.same("12: it took it", bay.ofTrain(0, 6), 0);
        C.same("5: another one over the same block", bay.over(1, 1), 2);
        bay.tick(2);
        C.same("12: over both", bay.many(3), 1);
        C.same("5: it is done, and has none", bay.over(0, 2), 3);
    }

    /** "how many TICKS it is SHUT from now on; 0 for not any more", "(NONE with 0)" */
    private static void shutForZeroTicks() {
        SemaphoreBay bay = Bays.row(false, 1);
        C.same("6: 0 of one that is not shut", bay.shut(0, 0), -1);
        C.same("16: it is not shut", bay.ofBlock(0, 3), -1);
        Bays.runner(bay, 1, 0, 1);
        C.yes("24: open", bay.isOpen(0, 0));
        bay.tick(7);
        C.same("6: 0 at a later clock", bay.shut(0, 0), -1);
        bay.shut(0, 100);
        C.no("24: shut", bay.isOpen(0, 0));
        C.same("6: not any more", bay.shut(0, 0), -1);
        C.same("16: not any more", bay.ofBlock(0, 3), -1);
        C.yes("24: not any more", bay.isOpen(0, 0));
        C.refused("6: -1", bay, Checks.ARGUMENT, () -> bay.shut(0, -1));
    }

    /** "if ticks is not 0 to 100" */
    private static void shutForAHundredTicks() {
        SemaphoreBay bay = Bays.row(false, 1);
        C.same("6: 100", bay.shut(0, 100), 100);
        C.refused("6: 101", bay, Checks.ARGUMENT, () -> bay.shut(0, 101));
        C.same("16: till", bay.ofBlock(0, 3), 100);
        Bays.runner(bay, 1, 0, 1);
        bay.tick(60);
        bay.tick(39);
        C.same("16: till", bay.ofBlock(0, 3), 100);
        C.same("12: it waited all the time", bay.ofTrain(0, 9), 99);
        bay.tick(1);
        C.same("16: not any more", bay.ofBlock(0, 3), -1);
        C.same("12: it sets out with this tick", bay.ofTrain(0, 5), 0);
        C.same("19: late", bay.ofTrain(0, 8), 100);
        C.same("6: 100 once more", bay.shut(0, 100), 200);
    }

    /** "It is SHUT as long as the CLOCK is below some number" */
    private static void shutAsLongAsTheClockIsBelow() {
        SemaphoreBay bay = Bays.row(false, 1);
        Bays.runner(bay, 1, 0, 1);
        bay.holdBack(0, 50);
        bay.tick(4);
        C.same("6: one tick", bay.shut(0, 1), 5);
        C.no("24: one below", bay.isOpen(0, 0));
        C.same("16: one below", bay.ofBlock(0, 3), 5);
        bay.tick(1);
        C.yes("24: just that number", bay.isOpen(0, 0));
        C.same("16: just that number", bay.ofBlock(0, 3), -1);
    }

    /** "(also while it is HELD or LOCKED)": held */
    private static void shutWhileItIsHeld() {
        SemaphoreBay bay = Bays.row(false, 2);
        Bays.runner(bay, 1, 0, 1);
        Bays.runner(bay, 1, 0, 1);
        bay.tick(1);
        C.same("6: while it is held", bay.shut(0, 3), 4);
        C.same("16: held", bay.ofBlock(0, 1), 0);
        C.same("16: and shut", bay.ofBlock(0, 3), 4);
        bay.tick(2);
        C.same("12: the train on it goes on", bay.many(3), 1);
        C.same("16: held no more", bay.ofBlock(0, 1), -1);
        C.same("16: but shut", bay.ofBlock(0, 3), 4);
        C.same("12: the next one has to wait", bay.ofTrain(1, 4), 0);
        C.same("22: for nobody", bay.waitsFor(1), -1);
        bay.tick(1);
        C.same("12: till it is shut no more", bay.ofTrain(1, 5), 0);
        C.same("21: two ticks for the first", bay.waitedFor(1, 0), 2);
        C.same("19: three in all", bay.ofTrain(1, 9), 3);
    }

    /** "(also while it is HELD or LOCKED)": locked */
    private static void shutWhileItIsLocked() {
        SemaphoreBay bay = Bays.row(true, 1, 1);
        Bays.runner(bay, 1, 0, 1);
        bay.tick(1);
        C.same("6: while it is locked", bay.shut(1, 3), 4);
        C.same("16: locked", bay.ofBlock(1, 2), 0);
        C.same("16: and shut", bay.ofBlock(1, 3), 4);
        bay.tick(2);
        C.same("12: it stands, though it is locked for it", bay.ofTrain(0, 11), 1);
        C.same("16: locked still", bay.ofBlock(1, 2), 0);
        C.same("22: for nobody", bay.waitsFor(0), -1);
        C.same("19: waited", bay.ofTrain(0, 9), 2);
        bay.tick(1);
        C.same("12: it goes on", bay.ofTrain(0, 5), 1);
        C.same("16: not locked any more", bay.ofBlock(1, 2), -1);
        C.same("19: waited no more", bay.ofTrain(0, 9), 2);
    }

    /** "how many TICKS it is SHUT from now on" */
    private static void shutIsCountedFromNow() {
        SemaphoreBay bay = Bays.row(false, 1);
        bay.shut(0, 60);
        bay.tick(10);
        C.same("6: shorter", bay.shut(0, 2), 12);
        C.same("6: longer", bay.shut(0, 70), 80);
        C.same("6: the same", bay.shut(0, 70), 80);
        bay.tick(60);
        C.same("16: the first number is forgotten", bay.ofBlock(0, 3), 80);
    }

    /** "if order is not 0 to 2, or stay is not 0 to 9" */
    private static void ordersAreZeroToTwo() {
        SemaphoreBay bay = new SemaphoreBay();
        int before = 0;
        for (int order = 2; order >= 0; order--) {
            C.same("7: before", bay.order(order, 9 * (order % 2)), before);
            before = order;
        }
        C.refused("7: -1", bay, Checks.ARGUMENT, () -> bay.order(-1, 0));
        C.refused("7: 3", bay, Checks.ARGUMENT, () -> bay.order(3, 9));
        C.refused("7: stay -1", bay, Checks.ARGUMENT, () -> bay.order(0, -1));
        C.refused("7: stay 10", bay, Checks.ARGUMENT, () -> bay.order(2, 10));
        C.refused("7: both", bay, Checks.ARGUMENT, () -> bay.order(3, 10));
    }

    /** "A method that throws an exception changes nothing.": neither the ORDER nor STAY, which can't be asked. */
    private static void aRefusedOrderKeepsOrderAndStay() {
        SemaphoreBay bay = Bays.row(false, 1);
        bay.order(1, 4);
        C.refused("7: a right order", bay, Checks.ARGUMENT, () -> bay.order(2, 10));
        C.refused("7: a right stay", bay, Checks.ARGUMENT, () -> bay.order(3, 0));
        Bays.runner(bay, 1, 0, 1);
        bay.tick(3);
        C.same("19: the stay is 4", bay.ofTrain(0, 10), 0);
        bay.tick(1);
        C.same("12: it sets out as it is over", bay.ofTrain(0, 5), 0);
        C.same("7: the order is 1", bay.order(0, 0), 1);
    }
}

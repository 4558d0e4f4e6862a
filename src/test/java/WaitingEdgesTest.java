/** The sentences on waiting (Terms 3, promises 19 and 21 to 23) that name a boundary case, each with a test. */
public final class WaitingEdgesTest {
    private static final Checks C = new Checks();
    private static final int NONE = -1;

    public static void main(String[] args) {
        onlyOneThatIsReadyOrStandsWaits();
        theFirstBlockThatIsNotClear();
        aBlockThatIsHeldOrLockedAndShut();
        noneIfItIsOnlyShut();
        noneIfAllAreClear();
        theHolderAlsoIfThereIsNoRoom();
        theFirstOfTheRoutes();
        aBlockThatWouldNotHaveToBeClear();
        oneThatStandsLooksAtItsNextBlockAlone();
        oneThatStandsLooksAtItsOwnRoute();
        asItIsWhenItsTurnComes();
        waitsForIsOfTheLatestTick();
        waitsForNobodyAnyMore();
        waitedForAddsUp();
        stuckIsARingOfTwo();
        stuckIsARingOfEight();
        oneThatWaitsForARingIsNotStuck();
        aRowOfWaitingOnesIsNotStuck();
        aLockMakesNobodyStuck();
        C.end("WaitingEdgesTest");
    }

    /** A train that holds a block of its own, on a route from 2 to 3, at clock 1 already and for long. */
    private static int holderOf(SemaphoreBay bay, int block) {
        bay.route(2, 3, block, false);
        int train = Bays.runner(bay, 3, 2, 3);
        bay.tick(1);
        C.same("16: it holds the block", bay.ofBlock(block, 1), train);
        return train;
    }

    private static void sameWaiting(String what, SemaphoreBay bay, int train, int waited, int other) {
        C.same("19: " + what + ": waited", bay.ofTrain(train, 9), waited);
        C.same("22: " + what + ": for", bay.waitsFor(train), other);
        if (other != NONE) {
            C.same("21: " + what + ": for it", bay.waitedFor(train, other), waited);
        }
    }

    /** "With each TICK each TRAIN that is READY and does not set out, or STANDS, has WAITED one TICK more" */
    private static void onlyOneThatIsReadyOrStandsWaits() {
        SemaphoreBay bay = Bays.row(false, 2, 1);
        bay.order(0, 3);
        Bays.runner(bay, 1, 0, 1);
        bay.shut(0, 5);
        bay.shut(1, 9);
        int[] due = {0, 0, 1, 2, 2, 2, 3, 4, 4, 4};
        for (int clock = 1; clock <= 10; clock++) {
            bay.tick(1);
            C.same("19: waited at " + clock, bay.ofTrain(0, 9), due[clock - 1]);
            C.same("19: stands at " + clock, bay.ofTrain(0, 11), clock == 7 || clock == 8 ? 1 : 0);
        }
        C.same("12: done", bay.many(3), 1);
        bay.tick(60);
        C.same("19: one that is done waits no more", bay.ofTrain(0, 9), 4);
    }

    /** "of the BLOCKS of it that would have to be CLEAR for it, in order, the first one that is not" */
    private static void theFirstBlockThatIsNotClear() {
        for (int first = 0; first < 5; first++) {
            SemaphoreBay bay = Bays.row(true, 9, 9, 9, 9, 9);
            int ahead = holderOf(bay, first);
            if (first < 4) {
                bay.route(4, 5, 4, false);
                Bays.runner(bay, 3, 4, 5);
                bay.tick(1);
            }
            int train = Bays.runner(bay, 1, 0, 1);
            bay.tick(1);
            sameWaiting("the first of two that are held", bay, train, 1, ahead);
        }
    }

    /** "the TRAIN by which that is HELD, or else another TRAIN for which it is LOCKED" */
    private static void aBlockThatIsHeldOrLockedAndShut() {
        SemaphoreBay bay = Bays.row(true, 3, 3);
        Bays.runner(bay, 3, 0, 1);
        bay.tick(1);
        bay.route(2, 3, 0, false);
        bay.route(4, 5, 1, false);
        int behindHeld = Bays.runner(bay, 1, 2, 3);
        int behindLocked = Bays.runner(bay, 1, 4, 5);
        bay.tick(1);
        sameWaiting("held", bay, behindHeld, 1, 0);
        sameWaiting("locked", bay, behindLocked, 1, 0);
        bay.shut(0, 100);
        bay.shut(1, 100);
        bay.tick(1);
        sameWaiting("held and shut", bay, behindHeld, 2, 0);
        sameWaiting("locked and shut", bay, behindLocked, 2, 0);
    }

    /** "none, if it is only SHUT", also if a BLOCK behind it is HELD. */
    private static void noneIfItIsOnlyShut() {
        SemaphoreBay bay = Bays.row(true, 1, 1, 9);
        int holder = holderOf(bay, 2);
        int train = Bays.runner(bay, 1, 0, 1);
        bay.shut(1, 2);
        bay.tick(1);
        sameWaiting("shut, the next one is held", bay, train, 1, NONE);
        bay.tick(1);
        C.same("22: shut no more", bay.waitsFor(train), holder);
        C.same("21: one tick for it", bay.waitedFor(train, holder), 1);
        C.same("19: of two", bay.ofTrain(train, 9), 2);
    }

    /** "or all are CLEAR (as there is no ROOM)" */
    private static void noneIfAllAreClear() {
        for (int whole = 0; whole <= 1; whole++) {
            SemaphoreBay bay = Bays.row(whole == 1, 1, 1);
            bay.platforms(1, 1);
            bay.train(0, 1, 1, 0);
            int train = Bays.runner(bay, 1, 0, 1);
            bay.tick(3);
            sameWaiting("no room", bay, train, 3, NONE);
            C.same("21: not for the one that takes it", bay.waitedFor(train, 0), 0);
        }
    }

    /** No ROOM, and a BLOCK that is not CLEAR: there is one to BLAME. */
    private static void theHolderAlsoIfThereIsNoRoom() {
        SemaphoreBay bay = Bays.row(false, 9);
        int holder = holderOf(bay, 0);
        bay.platforms(1, 1);
        bay.train(0, 1, 1, 0);
        int train = Bays.runner(bay, 1, 0, 1);
        bay.tick(2);
        sameWaiting("held, and no room", bay, train, 2, holder);
    }

    /** "of the ROUTES that it could take, the first one" */
    private static void theFirstOfTheRoutes() {
        SemaphoreBay bay = Bays.row(false, 9);
        bay.block(9);
        bay.route(0, 1, 1, false);
        int first = holderOf(bay, 0);
        bay.route(4, 5, 1, false);
        int second = Bays.runner(bay, 3, 4, 5);
        bay.tick(1);
        int train = Bays.runner(bay, 1, 0, 1);
        bay.tick(1);
        sameWaiting("both are held", bay, train, 1, first);
        C.same("21: not for the second", bay.waitedFor(train, second), 0);
        SemaphoreBay other = Bays.row(false, 9);
        other.block(9);
        other.route(0, 1, 1, false);
        other.shut(0, 100);
        int holder = holderOf(other, 1);
        int waiting = Bays.runner(other, 1, 0, 1);
        other.tick(1);
        sameWaiting("the first is only shut, the second is held", other, waiting, 1, NONE);
        C.same("21: not for the holder", other.waitedFor(waiting, holder), 0);
    }

    /** "that would have to be CLEAR": of a ROUTE that is not WHOLE the first BLOCK alone. */
    private static void aBlockThatWouldNotHaveToBeClear() {
        SemaphoreBay bay = Bays.row(false, 1, 9);
        holderOf(bay, 1);
        bay.platforms(1, 1);
        bay.train(0, 1, 1, 0);
        int train = Bays.runner(bay, 1, 0, 1);
        bay.tick(1);
        sameWaiting("no room, and the second block is held", bay, train, 1, NONE);
    }

    /** "(of one that STANDS its own one, with the next BLOCK alone)" */
    private static void oneThatStandsLooksAtItsNextBlockAlone() {
        SemaphoreBay bay = Bays.row(false, 1, 1, 9);
        int holder = holderOf(bay, 2);
        int train = Bays.runner(bay, 1, 0, 1);
        bay.shut(1, 4);
        bay.tick(3);
        C.same("19: stands", bay.ofTrain(train, 11), 1);
        sameWaiting("the next one is shut, the one behind it held", bay, train, 2, NONE);
        bay.tick(1);
        C.same("12: goes on", bay.ofTrain(train, 5), 1);
        bay.tick(1);
        C.same("22: now the next one is held", bay.waitsFor(train), holder);
        C.same("21: for it", bay.waitedFor(train, holder), 1);
    }

    /** "of one that STANDS its own one": not the first of those that it could have taken. */
    private static void oneThatStandsLooksAtItsOwnRoute() {
        SemaphoreBay bay = Bays.row(false, 9);
        bay.block(1);
        bay.block(9);
        bay.route(0, 1, 1, false);
        bay.over(1, 2);
        int first = holderOf(bay, 0);
        int train = Bays.runner(bay, 1, 0, 1);
        bay.tick(1);
        C.same("12: took the second one", bay.ofTrain(train, 6), 1);
        bay.shut(2, 100);
        bay.tick(1);
        sameWaiting("its own next block is only shut", bay, train, 1, NONE);
        C.same("21: not for the holder on the first one", bay.waitedFor(train, first), 0);
    }

    /** "if there is one to BLAME, as it is when its turn comes" */
    private static void asItIsWhenItsTurnComes() {
        SemaphoreBay bay = Bays.row(false, 1, 1);
        bay.route(2, 1, 1, false);
        int behind = Bays.runner(bay, 1, 0, 1);
        int ahead = Bays.runner(bay, 1, 2, 1);
        bay.tick(2);
        C.same("12: the greater number came with this tick", bay.many(3), 1);
        C.same("16: the block is free now", bay.ofBlock(1, 1), NONE);
        C.same("19: 0 left, though the next one is clear now", bay.ofTrain(behind, 11), 1);
        sameWaiting("it was held at its turn", bay, behind, 1, ahead);
        bay.tick(1);
        C.same("12: it goes on", bay.ofTrain(behind, 5), 1);
        SemaphoreBay race = Bays.row(false, 5);
        race.order(1, 0);
        for (int train = 0; train < 3; train++) {
            race.platforms(0, 4);
            Bays.runner(race, 1, 0, 1);
            race.rank(train, train);
        }
        race.tick(1);
        sameWaiting("the greatest rank set out ahead of it", race, 0, 1, 2);
        sameWaiting("and ahead of this one", race, 1, 1, 2);
        sameWaiting("which did not wait", race, 2, 0, NONE);
    }

    /** "Returns the TRAIN for which it waited with the latest TICK; NONE without one." */
    private static void waitsForIsOfTheLatestTick() {
        SemaphoreBay bay = Bays.row(false, 2);
        Bays.runner(bay, 1, 0, 1);
        Bays.runner(bay, 1, 0, 1);
        C.same("22: without a tick", bay.waitsFor(1), NONE);
        bay.tick(1);
        C.same("22: with this one", bay.waitsFor(1), 0);
        bay.shut(0, 100);
        bay.holdBack(1, 1);
        C.same("22: still of the latest", bay.waitsFor(1), 0);
        bay.tick(1);
        C.same("22: again", bay.waitsFor(1), 0);
        bay.tick(1);
        C.same("22: only shut now", bay.waitsFor(1), NONE);
        C.same("19: waited", bay.ofTrain(1, 9), 3);
        bay.shut(0, 0);
        bay.tick(1);
        C.same("22: it set out", bay.waitsFor(1), NONE);
        C.same("19: waited no more", bay.ofTrain(1, 9), 3);
    }

    /** "NONE without one": with the tick with which it sets out, goes on, or is not READY any more. */
    private static void waitsForNobodyAnyMore() {
        SemaphoreBay setsOut = Bays.row(false, 2);
        Bays.runner(setsOut, 1, 0, 1);
        Bays.runner(setsOut, 1, 0, 1);
        setsOut.holdBack(0, 2);
        setsOut.tick(2);
        sameWaiting("ready", setsOut, 0, 1, 1);
        setsOut.tick(1);
        C.same("12: sets out", setsOut.ofTrain(0, 5), 0);
        sameWaiting("sets out", setsOut, 0, 1, NONE);
        SemaphoreBay goesOn = Bays.row(false, 1, 3);
        goesOn.route(2, 1, 1, false);
        Bays.runner(goesOn, 1, 0, 1);
        Bays.runner(goesOn, 1, 2, 1);
        goesOn.tick(4);
        sameWaiting("stands", goesOn, 0, 3, 1);
        goesOn.tick(1);
        C.same("12: goes on", goesOn.ofTrain(0, 5), 1);
        sameWaiting("goes on", goesOn, 0, 3, NONE);
        SemaphoreBay heldBack = Bays.row(false, 9);
        Bays.runner(heldBack, 1, 0, 1);
        Bays.runner(heldBack, 1, 0, 1);
        heldBack.tick(2);
        sameWaiting("ready", heldBack, 1, 2, 0);
        heldBack.holdBack(1, 2);
        heldBack.tick(1);
        sameWaiting("not ready any more", heldBack, 1, 2, NONE);
        heldBack.tick(1);
        sameWaiting("ready again", heldBack, 1, 3, 0);
    }

    /** "how many TICKS the first one WAITED for the other one" */
    private static void waitedForAddsUp() {
        SemaphoreBay bay = Bays.row(false, 2);
        for (int train = 0; train < 3; train++) {
            bay.platforms(0, 4);
            Bays.runner(bay, 1, 0, 1);
        }
        bay.tick(60);
        int[][] due = {{0, 0, 0}, {2, 0, 0}, {2, 2, 0}};
        for (int train = 0; train < 3; train++) {
            for (int other = 0; other < 3; other++) {
                C.same("21: " + train + " for " + other, bay.waitedFor(train, other), due[train][other]);
            }
            C.same("19: " + train, bay.ofTrain(train, 9), 2 * train);
        }
    }

    /** "waited for one that waited for one, and so on, back to itself": by two. */
    private static void stuckIsARingOfTwo() {
        SemaphoreBay bay = Bays.meeting();
        bay.tick(2);
        C.same("14: not yet", bay.many(6), 0);
        C.no("23: not yet", bay.isStuck(0));
        bay.tick(1);
        for (int gone = 0; gone < 3; gone++) {
            C.same("14: both", bay.many(6), 2);
            C.yes("23: the first", bay.isStuck(0));
            C.yes("23: the second", bay.isStuck(1));
            bay.tick(1);
        }
        SemaphoreBay apart = Bays.meeting();
        apart.holdBack(1, 4);
        apart.tick(3);
        C.same("12: the first is on the block of the second", apart.ofBlock(1, 1), 0);
        apart.tick(1);
        C.same("22: the second waits", apart.waitsFor(1), 0);
        C.no("23: the second alone", apart.isStuck(1));
    }

    /** A ring of all eight trains. */
    private static SemaphoreBay ringOfEight() {
        SemaphoreBay bay = new SemaphoreBay();
        bay.platforms(4, 4);
        bay.platforms(5, 4);
        bay.order(0, 0);
        for (int block = 0; block < 8; block++) {
            bay.block(1);
        }
        for (int train = 0; train < 8; train++) {
            bay.route(train % 4, 4 + train / 4, train, false);
            bay.over(train, (train + 1) % 8);
            Bays.runner(bay, 1, train % 4, 4 + train / 4);
        }
        return bay;
    }

    /** "waited for one that waited for one, and so on, back to itself": by all that there can be. */
    private static void stuckIsARingOfEight() {
        SemaphoreBay bay = ringOfEight();
        C.same("29: it would be", bay.stuckIn(2), 2);
        C.same("29: not within one", bay.stuckIn(1), NONE);
        bay.tick(1);
        C.same("14: all are on blocks", bay.many(5), 8);
        C.same("14: none is stuck", bay.many(6), 0);
        bay.tick(1);
        C.same("14: all are stuck", bay.many(6), 8);
        for (int train = 0; train < 8; train++) {
            C.yes("23: in the ring", bay.isStuck(train));
            C.same("22: for the next one", bay.waitsFor(train), (train + 1) % 8);
        }
        C.same("27: all would wait", bay.waitedWith(0, 120), 960);
        SemaphoreBay open = ringOfEight();
        open.holdBack(7, 2);
        open.tick(2);
        C.same("14: one goes on, so none is stuck", open.many(6), 0);
    }

    /** "(one that only waits for such ones is not)" */
    private static void oneThatWaitsForARingIsNotStuck() {
        SemaphoreBay bay = Bays.meeting();
        bay.block(1);
        bay.route(2, 3, 2, false);
        bay.over(2, 0);
        Bays.runner(bay, 1, 2, 3);
        bay.block(1);
        bay.route(4, 5, 3, false);
        bay.over(3, 2);
        Bays.runner(bay, 1, 4, 5);
        bay.tick(4);
        C.same("22: for one of the ring", bay.waitsFor(2), 0);
        C.same("22: for the one that waits for it", bay.waitsFor(3), 2);
        C.yes("23: of the ring", bay.isStuck(0));
        C.no("23: it only waits", bay.isStuck(2));
        C.no("23: so does the one behind it", bay.isStuck(3));
        C.same("14: two", bay.many(6), 2);
        C.same("29: now", bay.stuckIn(120), 0);
    }

    /** A row of trains, each of which waits for the one ahead, which waits for none. */
    private static void aRowOfWaitingOnesIsNotStuck() {
        SemaphoreBay bay = Bays.row(false, 1, 1, 1, 1);
        bay.shut(3, 100);
        bay.platforms(0, 4);
        bay.platforms(1, 4);
        for (int train = 0; train < 4; train++) {
            Bays.runner(bay, 1, 0, 1);
        }
        bay.tick(9);
        for (int train = 0; train < 4; train++) {
            C.same("22: for the one ahead", bay.waitsFor(train), train - 1);
            C.no("23: not stuck", bay.isStuck(train));
        }
        C.same("14: none", bay.many(6), 0);
        C.same("29: never", bay.stuckIn(120), NONE);
    }

    /** Two on WHOLE ROUTES over the same BLOCKS, one of which waits in its STATION: that is no ring. */
    private static void aLockMakesNobodyStuck() {
        SemaphoreBay bay = Bays.wholeMeeting();
        bay.shut(1, 100);
        bay.tick(1);
        C.same("12: both wait, as the block is shut", bay.ofTrain(0, 9) + bay.ofTrain(1, 9), 2);
        bay.shut(1, 0);
        bay.tick(1);
        bay.shut(1, 100);
        bay.tick(4);
        C.same("19: the first stands", bay.ofTrain(0, 11), 1);
        C.same("22: for none", bay.waitsFor(0), NONE);
        C.same("22: the second for the first", bay.waitsFor(1), 0);
        C.same("14: none is stuck", bay.many(6), 0);
    }
}

/** The sentences on trains and ticks (Terms 2 and 4, promises 8 to 13) that name a boundary case, each with a test. */
public final class TrainEdgesTest {
    private static final Checks C = new Checks();

    public static void main(String[] args) {
        trainsAreEight();
        ranksPacesAndTimes();
        aPlanHasOneToEightStops();
        aStationIsOtherThanTheOneAhead();
        aTimeIsNotBelowTheOneAhead();
        aSingleStopIsNotDone();
        aDoneTrainTakesNoStop();
        aTrainOnItsLastBlockTakesAStop();
        itComesAtTheClockAtWhichItIsAdded();
        notReadyAtItsLastStop();
        readyAtItsTime();
        readyAtTheLatestTime();
        readyBehindItsStay();
        heldBackTillSomeClock();
        heldBackForZeroAndForAHundredTicks();
        heldBackOnABlock();
        nobodySetsOutAtClockZero();
        leftIsLengthTimesPace();
        aWholeRouteNeedsAllItsBlocks();
        anotherRouteNeedsItsFirstBlock();
        aWholeRouteLocksTheRest();
        ofTheRoutesTheFirstOneThatIsOpen();
        noRouteLeadsThere();
        itSetsOutWithTheTickWithWhichItComes();
        lateAsItSetsOut();
        lateAsItComesToItsLastStop();
        lateIsTheSameTillTheNextTime();
        ranksAreZeroToNine();
        aTickIsOneToSixty();
        sixtyTicksAreSixtyTimesOne();
        theOrders();
        theTimesOfTheStopsAtWhichTheyAre();
        theRanksAsTheyAreNow();
        ofSeveralTheSmallestNumber();
        allRollAheadOfThoseThatSetOut();
        theOneBehindTakesTheBlockWithTheSameTick();
        C.end("TrainEdgesTest");
    }

    /** "2 TRAINS. At most 8, numbered from 0" */
    private static void trainsAreEight() {
        SemaphoreBay bay = new SemaphoreBay();
        for (int number = 0; number < 8; number++) {
            C.refused("19: not yet " + number, bay, Checks.INDEX, () -> bay.ofTrain(bay.many(2), 0));
            C.same("8: number", bay.train(number, 1, number / 2, 0), number);
        }
        C.refused("8: nine, with room", bay, Checks.STATE, () -> bay.train(0, 1, 5, 0));
        C.refused("8: nine, without room", bay, Checks.STATE, () -> bay.train(0, 1, 0, 0));
        C.refused("8: nine, rank 10", bay, Checks.ARGUMENT, () -> bay.train(10, 1, 5, 0));
        C.refused("8: nine, pace 4 and station 6", bay, Checks.INDEX, () -> bay.train(0, 4, 6, 0));
        C.same("14: eight", bay.many(2), 8);
        C.same("9: the last one gets a stop", bay.stop(7, 0, 0), 2);
        C.same("10: the last one is held back", bay.holdBack(7, 9), 9);
        SemaphoreBay done = Bays.row(false, 1);
        for (int number = 0; number < 8; number++) {
            Bays.runner(done, 1, 0, 1);
            done.tick(2);
        }
        C.same("14: all are done", done.many(3), 8);
        C.refused("8: nine, though all are done", done, Checks.STATE, () -> done.train(0, 1, 0, 0));
    }

    /** "each with a RANK, 0 to 9, a PACE, 1 to 3, and a PLAN", "a TIME, 0 to 9999" */
    private static void ranksPacesAndTimes() {
        SemaphoreBay bay = new SemaphoreBay();
        int[][] edges = {{0, 1, 0}, {9, 1, 0}, {0, 3, 0}, {0, 1, 9999}, {9, 3, 9999}};
        for (int train = 0; train < edges.length; train++) {
            C.same("8: at the edges", bay.train(edges[train][0], edges[train][1], train, edges[train][2]), train);
            C.same("19: rank", bay.ofTrain(train, 0), edges[train][0]);
            C.same("19: pace", bay.ofTrain(train, 1), edges[train][1]);
            C.same("20: time", bay.plan(train, 0, true), edges[train][2]);
        }
        int[][] outside = {{-1, 1, 0}, {10, 1, 0}, {0, 0, 0}, {0, 4, 0}, {0, 1, -1}, {0, 1, 10000}};
        for (int[] bad : outside) {
            C.refused("8: beyond the edges", bay, Checks.ARGUMENT, () -> bay.train(bad[0], bad[1], 5, bad[2]));
        }
    }

    /** "a PLAN: 1 to 8 STOPS" */
    private static void aPlanHasOneToEightStops() {
        SemaphoreBay bay = Bays.row(false, 1);
        bay.block(1);
        bay.route(1, 0, 1, false);
        bay.train(0, 1, 0, 0);
        for (int count = 1; count <= 8; count++) {
            int beyond = count;
            C.same("19: stops", bay.ofTrain(0, 2), count);
            C.same("20: the last one", bay.plan(0, count - 1, false), (count - 1) % 2);
            C.refused("20: beyond the last one", bay, Checks.INDEX, () -> bay.plan(0, beyond, false));
            if (count < 8) {
                C.same("9: one more", bay.stop(0, count % 2, 0), count + 1);
            }
        }
        C.refused("9: nine", bay, Checks.STATE, () -> bay.stop(0, 0, 0));
        C.refused("9: nine, at the same station", bay, Checks.ARGUMENT, () -> bay.stop(0, 1, 0));
        C.refused("9: nine, at no station", bay, Checks.INDEX, () -> bay.stop(0, 6, 0));
        C.same("26: seven ways, a tick each, behind the first tick", bay.doneIn(0, 120), 8);
        for (int clock = 1; clock <= 8; clock++) {
            bay.tick(1);
            C.same("19: the stop to which it came last", bay.ofTrain(0, 3), clock - 1);
        }
        C.same("14: done", bay.many(3), 1);
        C.refused("9: nine, and done", bay, Checks.STATE, () -> bay.stop(0, 0, 0));
    }

    /** "each a STATION, other than that of the one ahead" */
    private static void aStationIsOtherThanTheOneAhead() {
        SemaphoreBay bay = new SemaphoreBay();
        bay.train(0, 1, 3, 0);
        C.refused("9: that of the first stop", bay, Checks.ARGUMENT, () -> bay.stop(0, 3, 0));
        C.same("9: another one", bay.stop(0, 4, 0), 2);
        C.refused("9: that of the last stop", bay, Checks.ARGUMENT, () -> bay.stop(0, 4, 0));
        C.same("9: that of the one ahead of the last", bay.stop(0, 3, 0), 3);
    }

    /** "a TIME, 0 to 9999, not below that of the one ahead" */
    private static void aTimeIsNotBelowTheOneAhead() {
        SemaphoreBay bay = new SemaphoreBay();
        bay.train(0, 1, 0, 5);
        C.refused("9: one below", bay, Checks.ARGUMENT, () -> bay.stop(0, 1, 4));
        C.same("9: the same", bay.stop(0, 1, 5), 2);
        C.same("9: one above", bay.stop(0, 0, 6), 3);
        C.refused("9: below the last, not below the first", bay, Checks.ARGUMENT, () -> bay.stop(0, 1, 5));
        C.refused("9: 10000", bay, Checks.ARGUMENT, () -> bay.stop(0, 1, 10000));
        C.same("9: 9999", bay.stop(0, 1, 9999), 4);
        C.refused("9: 9998 behind it", bay, Checks.ARGUMENT, () -> bay.stop(0, 0, 9998));
        C.same("9: 9999 behind it", bay.stop(0, 0, 9999), 5);
        bay.train(0, 1, 0, 0);
        C.refused("9: -1", bay, Checks.ARGUMENT, () -> bay.stop(1, 1, -1));
        C.same("9: 0", bay.stop(1, 1, 0), 2);
    }

    /** "(One whose PLAN has a single STOP is AT that STATION, and not DONE.)" */
    private static void aSingleStopIsNotDone() {
        SemaphoreBay bay = Bays.row(false, 1);
        bay.train(0, 1, 0, 0);
        C.same("26: it would not be done", bay.doneIn(0, 120), -1);
        C.same("12: it is left", bay.tick(60), 1);
        C.same("19: at its station", bay.ofTrain(0, 4), 0);
        C.same("14: not done", bay.many(3), 0);
        C.same("14: at a station", bay.many(4), 1);
        C.same("19: late by nothing", bay.ofTrain(0, 8), 0);
        C.same("19: it does not wait", bay.ofTrain(0, 9), 0);
        C.same("9: it takes a stop", bay.stop(0, 1, 0), 2);
        C.same("12: and goes there", bay.tick(2), 0);
    }

    /** "or the TRAIN is DONE" */
    private static void aDoneTrainTakesNoStop() {
        SemaphoreBay bay = Bays.row(false, 1);
        Bays.runner(bay, 1, 0, 1);
        bay.tick(2);
        C.same("19: nowhere", bay.ofTrain(0, 4) + bay.ofTrain(0, 5) + bay.ofTrain(0, 6), -3);
        C.same("19: at its last stop", bay.ofTrain(0, 3), 1);
        C.refused("9: done", bay, Checks.STATE, () -> bay.stop(0, 0, 9));
        C.refused("9: done, the same station", bay, Checks.ARGUMENT, () -> bay.stop(0, 1, 9));
        C.refused("9: done, time 10000", bay, Checks.ARGUMENT, () -> bay.stop(0, 0, 10000));
        C.refused("9: done, station 6", bay, Checks.INDEX, () -> bay.stop(0, 6, 9));
        C.same("10: it can be held back", bay.holdBack(0, 3), 5);
        C.same("11: it can get a rank", bay.rank(0, 9), 0);
        bay.tick(60);
        C.same("12: it stays done", bay.many(3), 1);
        C.same("19: and is not ready", bay.ofTrain(0, 10), 0);
    }

    /** "DONE (nowhere then), as it came to its last STOP": one tick ahead of that it is not. */
    private static void aTrainOnItsLastBlockTakesAStop() {
        SemaphoreBay bay = Bays.row(false, 3);
        Bays.runner(bay, 1, 0, 1);
        bay.tick(3);
        C.same("19: one tick left", bay.ofTrain(0, 7), 1);
        C.same("26: it would be done", bay.doneIn(0, 1), 1);
        C.same("9: one stop more", bay.stop(0, 2, 0), 3);
        C.same("12: so it is not done", bay.tick(1), 1);
        C.same("19: it is there", bay.ofTrain(0, 4), 1);
        C.same("19: late since it set out", bay.ofTrain(0, 8), 1);
        C.same("19: ready, but no route goes on", bay.ofTrain(0, 9), 1);
    }

    /** "It begins AT the STATION of its first STOP, come there at the CLOCK at which it is added." */
    private static void itComesAtTheClockAtWhichItIsAdded() {
        SemaphoreBay bay = new SemaphoreBay();
        bay.tick(7);
        Bays.runner(bay, 1, 2, 1);
        C.same("19: at its station", bay.ofTrain(0, 4), 2);
        C.same("19: its first stop", bay.ofTrain(0, 3), 0);
        bay.tick(1);
        C.same("19: one tick later", bay.ofTrain(0, 10), 0);
        C.same("19: it does not wait", bay.ofTrain(0, 9), 0);
        bay.tick(1);
        C.same("19: two ticks later", bay.ofTrain(0, 10), 1);
        C.same("19: it waits", bay.ofTrain(0, 9), 1);
        bay.order(0, 0);
        Bays.runner(bay, 1, 2, 1);
        C.same("19: without a stay it is ready at once", bay.ofTrain(1, 10), 1);
        C.same("19: but has not waited", bay.ofTrain(1, 9), 0);
    }

    /** "if it is AT the STATION of a STOP that is not its last one" */
    private static void notReadyAtItsLastStop() {
        SemaphoreBay bay = Bays.row(false, 1);
        bay.train(0, 1, 0, 0);
        bay.tick(3);
        C.same("19: not ready", bay.ofTrain(0, 10), 0);
        bay.stop(0, 1, 0);
        C.same("19: ready", bay.ofTrain(0, 10), 1);
        bay.tick(1);
        C.same("12: it sets out", bay.ofTrain(0, 5), 0);
        C.same("19: not ready on a block", bay.ofTrain(0, 10), 0);
    }

    /** "the CLOCK is not below the TIME of this STOP" */
    private static void readyAtItsTime() {
        for (int time = 1; time <= 4; time++) {
            SemaphoreBay bay = Bays.row(false, 9);
            bay.train(0, 1, 0, time);
            bay.stop(0, 1, 9999);
            if (time > 1) {
                bay.tick(time - 1);
            }
            C.same("12: ahead of its time it stays", bay.ofTrain(0, 4), 0);
            C.same("19: and is not ready", bay.ofTrain(0, 10), 0);
            bay.tick(1);
            C.same("12: just at its time it sets out", bay.ofTrain(0, 5), 0);
            C.same("19: and has not waited", bay.ofTrain(0, 9), 0);
            C.same("19: nor is it late", bay.ofTrain(0, 8), 0);
        }
    }

    /** "a TIME, 0 to 9999": the clock gets there. */
    private static void readyAtTheLatestTime() {
        SemaphoreBay bay = Bays.row(false, 1);
        bay.train(0, 1, 0, 9999);
        bay.stop(0, 1, 9999);
        Bays.after(bay, 9998);
        C.same("19: at 9998", bay.ofTrain(0, 10), 0);
        C.same("26: it would be done", bay.doneIn(0, 2), 2);
        bay.tick(1);
        C.same("12: at 9999", bay.ofTrain(0, 5), 0);
        C.same("19: in time", bay.ofTrain(0, 8), 0);
        bay.tick(1);
        C.same("19: late by one", bay.ofTrain(0, 8), 1);
        C.same("13: 10000", bay.clock(), 10000);
        C.refused("9: no later time", bay, Checks.ARGUMENT, () -> bay.stop(0, 0, 10000));
    }

    /** "it came there STAY TICKS ago or earlier (STAY is 0 to 9; 2, at first)" */
    private static void readyBehindItsStay() {
        SemaphoreBay atFirst = new SemaphoreBay();
        Bays.runner(atFirst, 1, 0, 1);
        atFirst.tick(1);
        C.same("19: one tick ago", atFirst.ofTrain(0, 10), 0);
        atFirst.tick(1);
        C.same("19: two ticks ago", atFirst.ofTrain(0, 10), 1);
        for (int stay = 0; stay <= 9; stay++) {
            SemaphoreBay bay = Bays.row(false, 1);
            Bays.runner(bay, 1, 0, 1);
            bay.stop(0, 2, 0);
            bay.tick(1);
            bay.order(0, stay);
            bay.tick(1);
            C.same("12: it came", bay.ofTrain(0, 4), 1);
            for (int gone = 0; gone <= 10; gone++) {
                C.same("19: stay " + stay + ", came " + gone + " ago", bay.ofTrain(0, 10), gone >= stay ? 1 : 0);
                C.same("19: it waits from then on", bay.ofTrain(0, 9), Math.max(0, gone - stay + 1));
                bay.tick(1);
            }
        }
    }

    /** "it is not HELD BACK (till some CLOCK, as with SHUT)" */
    private static void heldBackTillSomeClock() {
        SemaphoreBay bay = Bays.row(false, 9);
        Bays.runner(bay, 1, 0, 1);
        bay.tick(1);
        C.same("12: it set out", bay.ofTrain(0, 5), 0);
        Bays.runner(bay, 1, 2, 1);
        C.same("10: for three", bay.holdBack(1, 3), 4);
        for (int clock = 1; clock <= 4; clock++) {
            C.same("19: ready at " + clock, bay.ofTrain(1, 10), clock == 4 ? 1 : 0);
            C.same("19: held back at " + clock, bay.ofTrain(1, 12), clock == 4 ? -1 : 4);
            C.same("19: it waits from then on", bay.ofTrain(1, 9), clock == 4 ? 1 : 0);
            bay.tick(1);
        }
        C.same("10: one tick", bay.holdBack(1, 1), 6);
        C.same("19: not now", bay.ofTrain(1, 10), 0);
        bay.tick(1);
        C.same("19: but with the next tick", bay.ofTrain(1, 10), 1);
        C.same("10: longer", bay.holdBack(1, 9), 15);
        C.same("10: shorter", bay.holdBack(1, 2), 8);
    }

    /** "how many TICKS it is HELD BACK from now on; 0 for not any more", "if ticks is not 0 to 100" */
    private static void heldBackForZeroAndForAHundredTicks() {
        SemaphoreBay bay = new SemaphoreBay();
        Bays.runner(bay, 1, 0, 1);
        bay.order(0, 0);
        C.same("10: 0 of one that is not", bay.holdBack(0, 0), -1);
        C.same("19: it is not", bay.ofTrain(0, 12), -1);
        C.same("10: 100", bay.holdBack(0, 100), 100);
        C.refused("10: 101", bay, Checks.ARGUMENT, () -> bay.holdBack(0, 101));
        C.refused("10: -1", bay, Checks.ARGUMENT, () -> bay.holdBack(0, -1));
        Bays.after(bay, 99);
        C.same("19: at 99", bay.ofTrain(0, 12), 100);
        C.same("19: not ready", bay.ofTrain(0, 10), 0);
        bay.tick(1);
        C.same("19: at 100", bay.ofTrain(0, 12), -1);
        C.same("19: ready", bay.ofTrain(0, 10), 1);
        C.same("10: 100 again", bay.holdBack(0, 100), 200);
        C.same("10: not any more", bay.holdBack(0, 0), -1);
        C.same("19: ready at once", bay.ofTrain(0, 10), 1);
        C.same("19: not held back", bay.ofTrain(0, 12), -1);
    }

    /** A TRAIN that is HELD BACK is not READY; nothing says that it does not go on over its BLOCKS. */
    private static void heldBackOnABlock() {
        SemaphoreBay bay = Bays.row(false, 1, 1);
        Bays.runner(bay, 1, 0, 1);
        bay.stop(0, 0, 0);
        bay.tick(1);
        bay.holdBack(0, 5);
        bay.tick(1);
        C.same("12: on the next block", bay.ofTrain(0, 5), 1);
        bay.tick(1);
        C.same("12: at the station", bay.ofTrain(0, 4), 1);
        bay.tick(2);
        C.same("19: at 5 not ready", bay.ofTrain(0, 10), 0);
        bay.tick(1);
        C.same("19: at 6 ready", bay.ofTrain(0, 10), 1);
    }

    /** "4 A TICK: the CLOCK is 1 more": so nobody sets out ahead of the first one. */
    private static void nobodySetsOutAtClockZero() {
        SemaphoreBay bay = Bays.row(false, 1);
        Bays.runner(bay, 1, 0, 1);
        C.same("19: ready", bay.ofTrain(0, 10), 1);
        C.same("19: but there", bay.ofTrain(0, 4), 0);
        bay.tick(1);
        C.same("19: late by the first tick", bay.ofTrain(0, 8), 1);
        C.same("19: all ticks are left", bay.ofTrain(0, 7), 1);
    }

    /** "with LENGTH * PACE TICKS LEFT (as on each other one when it comes there)" */
    private static void leftIsLengthTimesPace() {
        for (int pace = 1; pace <= 3; pace++) {
            SemaphoreBay bay = Bays.row(false, 9, 1, 9);
            Bays.runner(bay, pace, 0, 1);
            bay.tick(1);
            int[] lengths = {9, 1, 9};
            for (int block = 0; block < 3; block++) {
                for (int left = lengths[block] * pace; left >= 1; left--) {
                    C.same("19: on", bay.ofTrain(0, 5), block);
                    C.same("19: left", bay.ofTrain(0, 7), left);
                    C.same("19: some are left", bay.ofTrain(0, 11), 0);
                    bay.tick(1);
                }
            }
            C.same("12: done", bay.many(3), 1);
            C.same("19: nothing is left", bay.ofTrain(0, 7), 0);
        }
    }

    /** "if it is WHOLE, all of its BLOCKS are CLEAR for it" */
    private static void aWholeRouteNeedsAllItsBlocks() {
        for (int block = 0; block < 5; block++) {
            SemaphoreBay bay = Bays.row(true, 1, 1, 1, 1, 1);
            Bays.runner(bay, 1, 0, 1);
            bay.shut(block, 3);
            C.no("24: one of five is shut", bay.isOpen(0, 0));
            bay.tick(2);
            C.same("12: it waits", bay.ofTrain(0, 4), 0);
            C.same("12: nothing is locked", bay.ofBlock(4, 2), -1);
            bay.tick(1);
            C.same("12: it sets out", bay.ofTrain(0, 5), 0);
            C.same("12: the rest is locked", bay.ofBlock(4, 2), 0);
        }
    }

    /** "otherwise the first one is" */
    private static void anotherRouteNeedsItsFirstBlock() {
        for (int block = 0; block < 5; block++) {
            SemaphoreBay bay = Bays.row(false, 1, 1, 1, 1, 1);
            Bays.runner(bay, 1, 0, 1);
            bay.shut(block, 60);
            C.same("24: open but for the first", bay.isOpen(0, 0) ? 1 : 0, block == 0 ? 0 : 1);
            bay.tick(9);
            C.same("12: so far it gets", bay.ofTrain(0, 5), block - 1);
            C.same("12: it stands there", bay.ofTrain(0, 11), block == 0 ? 0 : 1);
            C.same("12: or is in its station", bay.ofTrain(0, 4), block == 0 ? 0 : -1);
            C.same("19: it waits", bay.ofTrain(0, 9), 9 - block);
            C.same("12: nothing is locked", bay.ofBlock(4, 2), -1);
        }
    }

    /** "of a WHOLE ROUTE all other BLOCKS are LOCKED for it", "(which is not LOCKED any more)" */
    private static void aWholeRouteLocksTheRest() {
        SemaphoreBay bay = Bays.row(true, 1, 1, 1, 1, 1);
        Bays.runner(bay, 1, 0, 1);
        for (int on = 0; on < 5; on++) {
            bay.tick(1);
            for (int block = 0; block < 5; block++) {
                C.same("16: held", bay.ofBlock(block, 1), block == on ? 0 : -1);
                C.same("16: locked", bay.ofBlock(block, 2), block > on ? 0 : -1);
            }
        }
        bay.tick(1);
        C.same("12: done", bay.many(3), 1);
        C.same("16: not held", bay.ofBlock(4, 1), -1);
        SemaphoreBay back = new SemaphoreBay();
        back.order(0, 0);
        back.block(1);
        back.block(1);
        back.route(5, 4, 1, true);
        back.over(0, 0);
        Bays.runner(back, 1, 5, 4);
        back.tick(1);
        C.same("16: block 0 behind block 1: locked", back.ofBlock(0, 2), 0);
        C.same("16: the one on which it is: not", back.ofBlock(1, 2), -1);
    }

    /** "of the ROUTES from its STATION to that of its next STOP, the first one that is OPEN for it" */
    private static void ofTheRoutesTheFirstOneThatIsOpen() {
        for (int first = 0; first < 4; first++) {
            SemaphoreBay bay = Bays.row(false, 1);
            for (int block = 1; block < 3; block++) {
                bay.block(1);
                bay.route(0, 1, block, true);
            }
            bay.block(1);
            bay.route(1, 0, 3, false);
            bay.route(0, 2, 3, false);
            Bays.runner(bay, 1, 0, 1);
            for (int block = 0; block < first; block++) {
                bay.shut(block, 60);
            }
            bay.tick(1);
            C.same("12: the first of those that are open", bay.ofTrain(0, 6), first < 3 ? first : -1);
        }
    }

    /** "or there is no such ROUTE": it waits, for none. */
    private static void noRouteLeadsThere() {
        SemaphoreBay bay = Bays.row(false, 1);
        bay.route(1, 2, 0, false);
        bay.route(2, 0, 0, false);
        Bays.runner(bay, 1, 0, 2);
        bay.tick(4);
        C.same("12: it stays", bay.ofTrain(0, 4), 0);
        C.same("19: it waits", bay.ofTrain(0, 9), 4);
        C.same("22: for none", bay.waitsFor(0), -1);
        bay.route(0, 2, 0, false);
        bay.tick(1);
        C.same("12: till one is laid", bay.ofTrain(0, 6), 3);
    }

    /** "At the end of the last one it comes to the STATION at once (and can set out with this TICK, if it is READY)." */
    private static void itSetsOutWithTheTickWithWhichItComes() {
        for (int time = 2; time <= 4; time++) {
            for (int stay = 0; stay <= 2; stay++) {
                SemaphoreBay bay = Bays.row(false, 2);
                bay.block(9);
                bay.route(1, 2, 1, false);
                bay.train(0, 1, 0, 0);
                bay.stop(0, 1, time);
                bay.stop(0, 2, time);
                bay.tick(1);
                bay.order(0, stay);
                bay.tick(1);
                C.same("12: at 2 on its block", bay.ofTrain(0, 5), 0);
                int out = Math.max(time, 3 + stay);
                for (int clock = 3; clock <= 6; clock++) {
                    bay.tick(1);
                    C.same("12: the stop", bay.ofTrain(0, 3), 1);
                    C.same("12: there", bay.ofTrain(0, 4), clock < out ? 1 : -1);
                    C.same("12: or on the next block", bay.ofTrain(0, 5), clock < out ? -1 : 1);
                    C.same("16: the block is free", bay.ofBlock(0, 1), -1);
                }
                C.same("19: late", bay.ofTrain(0, 8), out - time);
                C.same("19: it did not wait", bay.ofTrain(0, 9), 0);
            }
        }
    }

    /** "as a TRAIN sets out, it is LATE by the CLOCK less the TIME of the STOP AT which it was" */
    private static void lateAsItSetsOut() {
        for (int time = 0; time <= 5; time++) {
            SemaphoreBay bay = Bays.row(false, 9);
            bay.train(0, 1, 0, time);
            bay.stop(0, 1, 9999);
            bay.shut(0, 5);
            bay.tick(4);
            C.same("19: 0 ahead of that", bay.ofTrain(0, 8), 0);
            bay.tick(1);
            C.same("12: it sets out", bay.ofTrain(0, 5), 0);
            C.same("19: late", bay.ofTrain(0, 8), 5 - time);
        }
    }

    /** "as it comes to its last STOP, by that less the TIME of this, 0 at the least" */
    private static void lateAsItComesToItsLastStop() {
        for (int time = 0; time <= 9; time++) {
            SemaphoreBay bay = Bays.row(false, 4);
            bay.train(0, 1, 0, 0);
            bay.stop(0, 1, time);
            bay.tick(4);
            C.same("19: as it set out", bay.ofTrain(0, 8), 1);
            bay.tick(1);
            C.same("12: it came at 5", bay.many(3), 1);
            C.same("19: late", bay.ofTrain(0, 8), time < 5 ? 5 - time : 0);
            bay.tick(60);
            C.same("19: the same ever after", bay.ofTrain(0, 8), time < 5 ? 5 - time : 0);
        }
    }

    /** "0 ahead of that, and the same till the next time" */
    private static void lateIsTheSameTillTheNextTime() {
        SemaphoreBay bay = Bays.row(false, 1);
        bay.block(1);
        bay.route(1, 2, 1, false);
        bay.train(0, 1, 0, 0);
        bay.stop(0, 1, 7);
        bay.stop(0, 2, 20);
        bay.holdBack(0, 3);
        int[] due = {0, 0, 3, 3, 3, 3, 0, 0, 0};
        for (int clock = 1; clock <= 9; clock++) {
            bay.tick(1);
            C.same("19: late at " + clock, bay.ofTrain(0, 8), due[clock - 1]);
        }
        C.same("12: it came ahead of its time", bay.many(3), 1);
    }

    /** "if rank is not 0 to 9" */
    private static void ranksAreZeroToNine() {
        SemaphoreBay bay = new SemaphoreBay();
        bay.train(5, 1, 0, 0);
        C.same("11: 9", bay.rank(0, 9), 5);
        C.refused("11: 10", bay, Checks.ARGUMENT, () -> bay.rank(0, 10));
        C.same("11: 0", bay.rank(0, 0), 9);
        C.refused("11: -1", bay, Checks.ARGUMENT, () -> bay.rank(0, -1));
        C.same("11: the same", bay.rank(0, 0), 0);
        C.refused("11: no train, and 10", bay, Checks.INDEX, () -> bay.rank(1, 10));
    }

    /** "if ticks is not 1 to 60", "how many TRAINS are not DONE then" */
    private static void aTickIsOneToSixty() {
        SemaphoreBay bay = Bays.row(false, 9, 9, 9, 9, 9);
        Bays.runner(bay, 3, 0, 1);
        bay.train(0, 1, 3, 0);
        C.refused("12: 0", bay, Checks.ARGUMENT, () -> bay.tick(0));
        C.refused("12: 61", bay, Checks.ARGUMENT, () -> bay.tick(61));
        C.same("12: 60", bay.tick(60), 2);
        C.same("13: 60", bay.clock(), 60);
        C.same("12: 120", bay.tick(60), 2);
        C.same("12: 121", bay.tick(1), 2);
        C.same("12: just ahead of its end", bay.tick(14), 2);
        C.same("12: at its end", bay.tick(1), 1);
        C.same("13: 5 * 9 * 3 + 1", bay.clock(), 136);
    }

    /** "how many TICKS go by" */
    private static void sixtyTicksAreSixtyTimesOne() {
        SemaphoreBay[] bays = {Bays.full(), Bays.full()};
        bays[0].tick(60);
        for (int gone = 0; gone < 60; gone++) {
            bays[1].tick(1);
        }
        C.alike("12: sixty", bays[0], bays[1]);
    }

    /** Who of those that get ready with one tick sets out first. */
    private static int firstOf(int order, int[] ranks, int[] times) {
        SemaphoreBay bay = Bays.row(false, 9);
        bay.platforms(0, 4);
        bay.platforms(1, 4);
        for (int train = 0; train < ranks.length; train++) {
            bay.train(ranks[train], 1, 0, times[train]);
            bay.stop(train, 1, 50 - train);
            bay.holdBack(train, 20);
        }
        bay.order(order, 0);
        bay.tick(20);
        return bay.ofBlock(0, 1);
    }

    /** "0 by numbers (at first), 1 by RANKS, the greatest first, 2 by the TIMES of the STOPS AT which they are" */
    private static void theOrders() {
        int[] ranks = {3, 5, 9, 0};
        int[] times = {4, 6, 7, 2};
        C.same("12: by numbers", firstOf(0, ranks, times), 0);
        C.same("12: by ranks", firstOf(1, ranks, times), 2);
        C.same("12: by times", firstOf(2, ranks, times), 3);
        SemaphoreBay atFirst = new SemaphoreBay();
        C.same("7: by numbers, at first", atFirst.order(0, 2), 0);
    }

    /** "2 by the TIMES of the STOPS AT which they are": neither of their first stops, nor of the next ones. */
    private static void theTimesOfTheStopsAtWhichTheyAre() {
        SemaphoreBay bay = new SemaphoreBay();
        for (int block = 0; block < 3; block++) {
            bay.block(1);
        }
        bay.route(0, 2, 0, false);
        bay.route(1, 2, 1, false);
        bay.route(2, 3, 2, false);
        bay.order(2, 0);
        int[][] times = {{0, 9, 10}, {1, 8, 40}};
        for (int train = 0; train < 2; train++) {
            bay.train(0, 1, train, times[train][0]);
            bay.stop(train, 2, times[train][1]);
            bay.stop(train, 3, times[train][2]);
        }
        bay.holdBack(0, 20);
        bay.holdBack(1, 20);
        Bays.after(bay, 20);
        C.same("12: both set out", bay.many(5), 2);
        bay.tick(1);
        C.same("12: the smallest time of the stop at which they are", bay.ofBlock(2, 1), 1);
        C.same("12: the other one waits", bay.waitsFor(0), 1);
        C.same("19: late by the time of that stop", bay.ofTrain(1, 8), 21 - 8);
    }

    /** "1 by RANKS": as they are when the tick comes. */
    private static void theRanksAsTheyAreNow() {
        SemaphoreBay bay = Bays.row(false, 2);
        bay.platforms(0, 3);
        bay.platforms(1, 3);
        for (int train = 0; train < 3; train++) {
            Bays.runner(bay, 1, 0, 1);
            bay.rank(train, 3 - train);
        }
        bay.order(1, 0);
        bay.tick(1);
        C.same("12: the greatest", bay.ofBlock(0, 1), 0);
        bay.rank(2, 3);
        bay.tick(2);
        C.same("12: the greatest now", bay.ofBlock(0, 1), 2);
        bay.order(0, 0);
        bay.rank(1, 0);
        bay.tick(2);
        C.same("12: the last one, whatever its rank", bay.ofBlock(0, 1), 1);
    }

    /** "of several the smallest number first" */
    private static void ofSeveralTheSmallestNumber() {
        C.same("12: all ranks are alike", firstOf(1, new int[] {4, 4, 4, 4}, new int[] {4, 3, 2, 1}), 0);
        C.same("12: two ranks are alike", firstOf(1, new int[] {8, 9, 9, 8}, new int[] {4, 3, 2, 1}), 1);
        C.same("12: all times are alike", firstOf(2, new int[] {1, 2, 3, 4}, new int[] {4, 4, 4, 4}), 0);
        C.same("12: two times are alike", firstOf(2, new int[] {1, 2, 3, 4}, new int[] {5, 4, 5, 4}), 1);
    }

    /** "each TRAIN that is ON a BLOCK ...; then those that are READY set out" */
    private static void allRollAheadOfThoseThatSetOut() {
        SemaphoreBay bay = Bays.row(false, 1);
        bay.platforms(1, 1);
        Bays.runner(bay, 1, 0, 1);
        bay.holdBack(0, 2);
        Bays.runner(bay, 1, 0, 1);
        bay.tick(1);
        C.same("12: the second one is on the block", bay.ofBlock(0, 1), 1);
        bay.tick(1);
        C.same("12: it came, and the first one is on it with the same tick", bay.ofBlock(0, 1), 0);
        C.same("12: nobody waited", bay.ofTrain(0, 9) + bay.ofTrain(1, 9), 0);
    }

    /** "each TRAIN that is ON a BLOCK, by numbers": what one leaves, a greater number takes with the same tick. */
    private static void theOneBehindTakesTheBlockWithTheSameTick() {
        SemaphoreBay bay = Bays.row(false, 1, 1, 1);
        bay.platforms(0, 3);
        bay.platforms(1, 3);
        for (int train = 0; train < 3; train++) {
            Bays.runner(bay, 1, 0, 1);
        }
        bay.tick(3);
        int[] on = {2, 1, 0};
        for (int train = 0; train < 3; train++) {
            C.same("12: one behind the other", bay.ofTrain(train, 5), on[train]);
            C.same("19: each waited for the one ahead alone", bay.ofTrain(train, 9), train);
        }
        C.same("12: all come, one by one", bay.tick(1), 2);
        C.same("12: all come, one by one", bay.tick(1), 1);
        C.same("12: all come, one by one", bay.tick(1), 0);
    }
}

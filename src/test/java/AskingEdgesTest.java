import java.math.BigInteger;
import java.util.List;
import java.util.function.Supplier;

/** The sentences on asking and on what would be (promises 14 to 30) that name a boundary case, each with a test. */
public final class AskingEdgesTest {
    private static final Checks C = new Checks();
    private static final int NONE = -1;

    private static final List<Supplier<SemaphoreBay>> BAYS = List.of(
            SemaphoreBay::new, Bays::meeting, Bays::wholeMeeting, Bays::station, Bays::full,
            () -> Bays.after(Bays.meeting(), 4), () -> Bays.after(Bays.wholeMeeting(), 5),
            () -> Bays.after(Bays.station(), 9), () -> Bays.after(Bays.full(), 12));

    public static void main(String[] args) {
        manyOfNoneAndOfAll();
        oneThatIsDoneIsNowhere();
        trainsAtAndOnRoutesTo();
        blocksTellNone();
        zeroLeftOnABlock();
        noWaitForItself();
        openWhereverItIs();
        openIfHeldByItself();
        openIfLockedForItself();
        openUpToTheClock();
        meanLateIsNotCut();
        doneInNowAndJustWithin();
        doneInAHundredAndTwenty();
        waitedWithOneAndAHundredAndTwenty();
        waitedWithEachOrder();
        waitedWithKeepsTheStay();
        lostByOneAndSixty();
        lostByWhateverItWas();
        lostByBelowZero();
        stuckInNowAndJustWithin();
        stuckInAHundredAndTwenty();
        askingChangesNothing();
        theChecksumStartsAndGoesOn();
        theChecksumWrapsAround();
        fiveHundredAndTwelveCalls();
        C.end("AskingEdgesTest");
    }

    /** "3 those that are DONE, 4 those AT a STATION, 5 those ON a BLOCK": none, and all that there can be. */
    private static void manyOfNoneAndOfAll() {
        SemaphoreBay bay = new SemaphoreBay();
        bay.order(0, 0);
        for (int number = 0; number < 8; number++) {
            bay.block(1);
            bay.route(number % 4, 4 + number / 4, number, false);
        }
        bay.platforms(4, 4);
        bay.platforms(5, 4);
        for (int number = 0; number < 8; number++) {
            Bays.runner(bay, 1, number % 4, 4 + number / 4);
        }
        int[][] due = {{0, 8, 0, 0}, {0, 0, 8, 0}, {8, 0, 0, 0}};
        for (int clock = 0; clock <= 2; clock++) {
            for (int what = 3; what <= 6; what++) {
                C.same("14: at " + clock + ", " + what, bay.many(what), due[clock][what - 3]);
            }
            C.same("12: not done", bay.tick(1), clock == 0 ? 8 : 0);
        }
    }

    /** "DONE (nowhere then)" */
    private static void oneThatIsDoneIsNowhere() {
        SemaphoreBay bay = Bays.row(true, 2, 1);
        Bays.runner(bay, 3, 0, 1);
        bay.platforms(1, 1);
        bay.tick(10);
        int[] due = {0, 3, 2, 1, NONE, NONE, NONE, 0, 10, 0, 0, 0, NONE};
        for (int what = 0; what <= 12; what++) {
            C.same("19: done, " + what, bay.ofTrain(0, what), due[what]);
        }
        C.same("15: not at its station", bay.station(1, 1), 0);
        C.same("15: nor on its way", bay.station(1, 2), 0);
        C.same("8: so there is room", bay.train(0, 1, 1, 0), 1);
        C.same("16: it holds nothing", bay.ofBlock(1, 1), NONE);
    }

    /** "1 how many TRAINS are AT it, 2 how many are ON ROUTES to it" */
    private static void trainsAtAndOnRoutesTo() {
        SemaphoreBay bay = Bays.row(false, 9, 9);
        bay.block(9);
        bay.route(2, 1, 2, false);
        bay.platforms(1, 4);
        bay.train(0, 1, 1, 0);
        bay.train(0, 1, 1, 0);
        Bays.runner(bay, 1, 0, 1);
        Bays.runner(bay, 1, 2, 1);
        Bays.runner(bay, 1, 0, 1);
        bay.tick(1);
        C.same("15: at", bay.station(1, 1), 2);
        C.same("15: by two routes", bay.station(1, 2), 2);
        C.same("15: from where they go counts not", bay.station(0, 2), 0);
        C.same("15: the fifth one waits", bay.station(0, 1), 1);
        C.same("15: full", bay.station(1, 0), 4);
        bay.tick(18);
        C.same("15: those that are done are not at it", bay.station(1, 1), 2);
        C.same("15: nor on their way, but the fifth one is", bay.station(1, 2), 1);
    }

    /** "(NONE without one)", "(NONE)", "(NONE, if it is not)" */
    private static void blocksTellNone() {
        SemaphoreBay bay = Bays.row(true, 9, 1);
        for (int block = 0; block < 2; block++) {
            for (int what = 1; what <= 3; what++) {
                C.same("16: at first", bay.ofBlock(block, what), NONE);
            }
        }
        Bays.runner(bay, 1, 0, 1);
        bay.tick(1);
        C.same("16: by train 0, which is not none", bay.ofBlock(0, 1), 0);
        C.same("16: for train 0, which is not none", bay.ofBlock(1, 2), 0);
        C.same("16: held is not locked", bay.ofBlock(0, 2), NONE);
        C.same("16: locked is not held", bay.ofBlock(1, 1), NONE);
    }

    /** "1 if it has 0 LEFT ON a BLOCK, CLEAR or not (0 otherwise, each)" */
    private static void zeroLeftOnABlock() {
        SemaphoreBay bay = Bays.row(false, 2, 1);
        Bays.runner(bay, 1, 0, 1);
        C.same("19: at a station nothing is left, but on no block", bay.ofTrain(0, 11), 0);
        bay.shut(1, 4);
        bay.tick(2);
        C.same("19: one left", bay.ofTrain(0, 11), 0);
        bay.tick(1);
        C.same("19: none left", bay.ofTrain(0, 11), 1);
        bay.shut(1, 0);
        C.same("19: none left, and the next one is clear", bay.ofTrain(0, 11), 1);
        C.same("19: left", bay.ofTrain(0, 7), 0);
        bay.tick(1);
        C.same("19: one left on the next", bay.ofTrain(0, 11), 0);
        bay.tick(1);
        C.same("19: done", bay.ofTrain(0, 11), 0);
    }

    /** "`other`: another one": for itself it has not waited. */
    private static void noWaitForItself() {
        SemaphoreBay bay = Bays.after(Bays.meeting(), 9);
        for (int train = 0; train < 2; train++) {
            C.same("21: itself", bay.waitedFor(train, train), 0);
            C.same("21: the other one", bay.waitedFor(train, 1 - train), 7);
        }
    }

    /** "whether that is OPEN for it now (wherever it is)" */
    private static void openWhereverItIs() {
        SemaphoreBay bay = Bays.row(false, 2);
        bay.block(1);
        bay.route(4, 5, 1, true);
        bay.train(0, 1, 3, 9999);
        Bays.runner(bay, 1, 0, 1);
        C.yes("24: one that is at its only stop", bay.isOpen(0, 1));
        C.yes("24: one that goes elsewhere", bay.isOpen(1, 1));
        bay.holdBack(1, 1);
        C.yes("24: one that is held back", bay.isOpen(1, 0));
        bay.tick(1);
        C.yes("24: one on a block", bay.isOpen(1, 1));
        bay.tick(2);
        C.same("12: it is done", bay.many(3), 1);
        C.yes("24: one that is done", bay.isOpen(1, 1));
        C.yes("24: one that is done", bay.isOpen(1, 0));
        bay.platforms(5, 1);
        bay.train(0, 1, 5, 0);
        C.no("24: no room, for another one", bay.isOpen(1, 1));
        C.no("24: no room, for the one that takes it", bay.isOpen(2, 1));
    }

    /** "not HELD (by that TRAIN itself, neither)" */
    private static void openIfHeldByItself() {
        SemaphoreBay bay = Bays.row(false, 9, 1);
        bay.route(2, 3, 0, false);
        bay.route(2, 3, 1, true);
        bay.over(2, 0);
        bay.route(2, 3, 1, false);
        bay.over(3, 0);
        Bays.runner(bay, 1, 0, 1);
        bay.train(0, 1, 5, 0);
        bay.tick(1);
        for (int train = 0; train <= 1; train++) {
            C.no("24: its first block is held", bay.isOpen(train, 1));
            C.no("24: its second block is held, it is whole", bay.isOpen(train, 2));
            C.yes("24: its second block is held, it is not whole", bay.isOpen(train, 3));
        }
        bay.platforms(1, 4);
        C.no("24: its own route, with room", bay.isOpen(0, 0));
        C.no("24: its own route, for another one", bay.isOpen(1, 0));
        bay.tick(9);
        C.yes("24: its own route, as it is on the second block, which need not be clear", bay.isOpen(0, 0));
        SemaphoreBay whole = Bays.row(true, 1, 1);
        whole.platforms(1, 4);
        Bays.runner(whole, 1, 0, 1);
        for (int block = 0; block < 2; block++) {
            whole.tick(1);
            C.same("16: it holds one", whole.ofBlock(block, 1), 0);
            C.no("24: its own route, which is whole", whole.isOpen(0, 0));
        }
        whole.tick(1);
        C.yes("24: the route that was its own", whole.isOpen(0, 0));
    }

    /** "nor LOCKED for another one" */
    private static void openIfLockedForItself() {
        SemaphoreBay bay = Bays.row(true, 9, 1);
        bay.route(2, 3, 1, false);
        bay.route(2, 3, 1, true);
        Bays.runner(bay, 1, 0, 1);
        bay.train(0, 1, 5, 0);
        bay.tick(1);
        for (int route = 1; route <= 2; route++) {
            C.yes("24: locked for itself", bay.isOpen(0, route));
            C.no("24: locked for another one", bay.isOpen(1, route));
        }
        bay.shut(1, 1);
        C.no("24: locked for itself, but shut", bay.isOpen(0, 1));
    }

    /** "It is SHUT as long as the CLOCK is below some number" */
    private static void openUpToTheClock() {
        SemaphoreBay bay = Bays.row(true, 1, 1);
        bay.train(0, 1, 2, 0);
        bay.shut(1, 3);
        for (int clock = 0; clock <= 4; clock++) {
            C.same("24: open at " + clock, bay.isOpen(0, 0) ? 1 : 0, clock < 3 ? 0 : 1);
            bay.tick(1);
        }
    }

    /** "the mean of how LATE all TRAINS are, not cut; 0 without any" */
    private static void meanLateIsNotCut() {
        SemaphoreBay bay = Bays.row(false, 9);
        C.sameDouble("25: without any", bay.meanLate(), 0.0);
        Bays.runner(bay, 1, 0, 1);
        C.sameDouble("25: one that is not late", bay.meanLate(), 0.0);
        bay.tick(1);
        double[] due = {1.0, 0.5, 1.0 / 3.0, 0.25, 0.2, 1.0 / 6.0, 1.0 / 7.0, 0.125};
        for (int trains = 1; trains <= 8; trains++) {
            C.sameDouble("25: of " + trains, bay.meanLate(), due[trains - 1]);
            if (trains < 8) {
                bay.train(0, 1, trains / 2 + 2, 9999);
            }
        }
        bay.tick(9);
        C.sameDouble("25: one is done, 10 late", bay.meanLate(), 1.25);
        SemaphoreBay late = Bays.row(false, 9);
        late.train(0, 3, 0, 0);
        late.stop(0, 1, 0);
        late.train(0, 1, 3, 0);
        late.train(0, 1, 4, 0);
        late.shut(0, 100);
        Bays.after(late, 127);
        C.sameDouble("25: 127 of three", late.meanLate(), 127.0 / 3.0);
    }

    /** "behind how many it would be DONE (0, if it is now); NONE if not within so many" */
    private static void doneInNowAndJustWithin() {
        SemaphoreBay bay = Bays.row(false, 5);
        Bays.runner(bay, 1, 0, 1);
        for (int left = 6; left >= 1; left--) {
            C.same("26: just within", bay.doneIn(0, left), left);
            C.same("26: long", bay.doneIn(0, 120), left);
            if (left > 1) {
                C.same("26: one too few", bay.doneIn(0, left - 1), NONE);
            }
            bay.tick(1);
        }
        C.same("26: now", bay.doneIn(0, 1), 0);
        C.same("26: now", bay.doneIn(0, 120), 0);
        C.refused("26: now, but 0", bay, Checks.ARGUMENT, () -> bay.doneIn(0, 0));
        C.refused("26: now, but 121", bay, Checks.ARGUMENT, () -> bay.doneIn(0, 121));
    }

    /** "if ticks is not 1 to 120" */
    private static void doneInAHundredAndTwenty() {
        SemaphoreBay bay = Bays.row(false, 7);
        Bays.runner(bay, 3, 0, 1);
        bay.holdBack(0, 100);
        C.same("26: behind 121", bay.doneIn(0, 120), NONE);
        bay.tick(1);
        C.same("26: behind 120", bay.doneIn(0, 120), 120);
        C.same("26: not behind 119", bay.doneIn(0, 119), NONE);
        C.refused("26: 121", bay, Checks.ARGUMENT, () -> bay.doneIn(0, 121));
        C.same("12: it is, then", bay.tick(60) + bay.tick(59) + bay.tick(1), 2);
    }

    /** "how many TICKS more than now all TRAINS together would have WAITED behind so many" */
    private static void waitedWithOneAndAHundredAndTwenty() {
        SemaphoreBay bay = Bays.after(Bays.meeting(), 3);
        for (int order = 0; order <= 2; order++) {
            C.same("27: one", bay.waitedWith(order, 1), 2);
            C.same("27: a hundred and twenty", bay.waitedWith(order, 120), 240);
        }
        C.refused("27: 0", bay, Checks.ARGUMENT, () -> bay.waitedWith(0, 0));
        C.refused("27: 121", bay, Checks.ARGUMENT, () -> bay.waitedWith(2, 121));
        C.refused("27: order 3", bay, Checks.ARGUMENT, () -> bay.waitedWith(3, 1));
        C.refused("27: order -1", bay, Checks.ARGUMENT, () -> bay.waitedWith(-1, 120));
        Bays.after(bay, 120);
        C.same("27: more than now", bay.waitedWith(1, 120), 240);
    }

    /** "with this ORDER": the slow train ahead of the two quick ones, or behind them. */
    private static void waitedWithEachOrder() {
        SemaphoreBay bay = Bays.row(false, 3);
        bay.platforms(0, 3);
        bay.platforms(1, 3);
        int[] ranks = {0, 9, 9};
        int[] paces = {3, 1, 1};
        int[] times = {2, 2, 1};
        for (int train = 0; train < 3; train++) {
            bay.train(ranks[train], paces[train], 0, times[train]);
            bay.stop(train, 1, times[train]);
            bay.holdBack(train, 2);
        }
        for (int order = 0; order <= 2; order++) {
            bay.order(order, 0);
            C.same("27: by numbers, whatever the order is now", bay.waitedWith(0, 60), 9 + 12);
            C.same("27: by ranks", bay.waitedWith(1, 60), 3 + 6);
            C.same("27: by times", bay.waitedWith(2, 60), 3 + 12);
            C.same("7: the order is as it was", bay.order(order, 0), order);
        }
    }

    /** "with this ORDER": STAY is what it was. */
    private static void waitedWithKeepsTheStay() {
        for (int stay = 0; stay <= 9; stay++) {
            SemaphoreBay bay = new SemaphoreBay();
            bay.order(2, stay);
            Bays.runner(bay, 1, 0, 1);
            C.same("27: stay " + stay, bay.waitedWith(0, 10), Math.min(10, 11 - stay));
            C.same("7: the order is as it was", bay.order(2, stay), 2);
        }
    }

    /** "if ticks is not 1 to 60" */
    private static void lostByOneAndSixty() {
        SemaphoreBay bay = Bays.row(false, 1, 1);
        Bays.runner(bay, 1, 0, 1);
        C.same("28: one: shut no more with the first tick", bay.lostBy(0, 1), 0);
        C.same("28: two: not done either way", bay.lostBy(0, 2), 0);
        C.same("28: three: it would be done but for that", bay.lostBy(0, 3), 1);
        C.same("28: three: the second block, too", bay.lostBy(1, 3), 1);
        C.same("28: sixty", bay.lostBy(0, 60), 1);
        C.refused("28: 0", bay, Checks.ARGUMENT, () -> bay.lostBy(0, 0));
        C.refused("28: 61", bay, Checks.ARGUMENT, () -> bay.lostBy(0, 61));
        C.refused("28: no block, and 61", bay, Checks.INDEX, () -> bay.lostBy(2, 61));
        SemaphoreBay slow = Bays.row(false, 9, 9);
        Bays.runner(slow, 3, 0, 1);
        slow.holdBack(0, 6);
        C.same("28: done behind just 60", slow.doneIn(0, 120), 60);
        C.same("28: sixty, just", slow.lostBy(0, 60), 1);
        C.same("28: fifty-nine, not yet", slow.lostBy(0, 59), 0);
        slow.tick(33);
        C.same("28: it is on the second one", slow.ofTrain(0, 5), 1);
        C.same("28: one that is on it goes on", slow.lostBy(1, 27), 0);
    }

    /** "(as with shut(), whatever it was)" */
    private static void lostByWhateverItWas() {
        SemaphoreBay bay = Bays.row(false, 1);
        Bays.runner(bay, 1, 0, 1);
        bay.shut(0, 3);
        C.same("28: shut for less: done behind 4, but for that", bay.lostBy(0, 4), 1);
        C.same("28: shut for as long: not done either way", bay.lostBy(0, 3), 0);
        bay.shut(0, 100);
        C.same("28: shut for more: not done either way", bay.lostBy(0, 60), 0);
        C.same("16: it is shut as it was", bay.ofBlock(0, 3), 100);
        bay.shut(0, 0);
        C.same("28: not shut", bay.lostBy(0, 2), 1);
        C.same("16: it is not shut", bay.ofBlock(0, 3), NONE);
    }

    /** "it can be below 0": the one that is kept out would have stood in the way of others. */
    private static void lostByBelowZero() {
        SemaphoreBay bay = Bays.row(false, 1, 1);
        bay.route(2, 1, 1, false);
        bay.block(1);
        bay.platforms(1, 1);
        Bays.runner(bay, 3, 0, 1);
        Bays.runner(bay, 1, 2, 1);
        C.same("28: the slow one takes the only platform", bay.lostBy(0, 3), -1);
        C.same("28: both ways one, in time", bay.lostBy(0, 7), 0);
        C.same("28: another block", bay.lostBy(2, 7), 0);
    }

    /** "behind how many a TRAIN would be STUCK (0, if one is now); NONE if not within so many" */
    private static void stuckInNowAndJustWithin() {
        SemaphoreBay bay = Bays.meeting();
        for (int left = 3; left >= 1; left--) {
            C.same("29: just within", bay.stuckIn(left), left);
            C.same("29: long", bay.stuckIn(120), left);
            if (left > 1) {
                C.same("29: one too few", bay.stuckIn(left - 1), NONE);
            }
            bay.tick(1);
        }
        C.same("29: now", bay.stuckIn(1), 0);
        C.same("29: now", bay.stuckIn(120), 0);
        C.refused("29: now, but 0", bay, Checks.ARGUMENT, () -> bay.stuckIn(0));
        C.refused("29: now, but 121", bay, Checks.ARGUMENT, () -> bay.stuckIn(121));
    }

    /** "if ticks is not 1 to 120" */
    private static void stuckInAHundredAndTwenty() {
        SemaphoreBay bay = Bays.row(false, 7, 7);
        bay.route(1, 0, 1, false);
        bay.over(1, 0);
        Bays.runner(bay, 3, 0, 1);
        Bays.runner(bay, 3, 1, 0);
        bay.holdBack(0, 100);
        bay.holdBack(1, 100);
        C.same("29: behind 121", bay.stuckIn(120), NONE);
        bay.tick(1);
        C.same("29: behind 120", bay.stuckIn(120), 120);
        C.same("29: not behind 119", bay.stuckIn(119), NONE);
        C.refused("29: 121", bay, Checks.ARGUMENT, () -> bay.stuckIn(121));
        Bays.after(bay, 119);
        C.same("14: not yet", bay.many(6), 0);
        bay.tick(1);
        C.same("14: both, then", bay.many(6), 2);
    }

    /** "what would be (nothing is changed)": by the fewest ticks and the most, nor by any other question. */
    private static void askingChangesNothing() {
        for (Supplier<SemaphoreBay> maker : BAYS) {
            SemaphoreBay bay = maker.get();
            for (int ticks : new int[] {1, 60, 120}) {
                for (int train = 0; train < bay.many(2); train++) {
                    bay.doneIn(train, ticks);
                }
                for (int order = 0; order <= 2; order++) {
                    bay.waitedWith(order, ticks);
                }
                for (int block = 0; block < bay.many(0); block++) {
                    bay.lostBy(block, Math.min(60, ticks));
                }
                bay.stuckIn(ticks);
            }
            bay.digest();
            Picture.of(bay);
            C.alike("14 to 30: nothing is changed", bay, maker.get());
        }
    }

    /** The numbers of which the checksum is made, in the document's order, without any wrap-around. */
    private static BigInteger unwrapped(SemaphoreBay bay) {
        BigInteger d = BigInteger.valueOf(58091);
        d = with(d, bay.clock());
        for (int what = 0; what <= 6; what++) {
            d = with(d, bay.many(what));
        }
        for (int station = 0; station <= 5; station++) {
            for (int what = 0; what <= 2; what++) {
                d = with(d, bay.station(station, what));
            }
        }
        for (int block = 0; block < bay.many(0); block++) {
            for (int what = 0; what <= 3; what++) {
                d = with(d, bay.ofBlock(block, what));
            }
        }
        for (int train = 0; train < bay.many(2); train++) {
            for (int what = 0; what <= 12; what++) {
                d = with(d, bay.ofTrain(train, what));
            }
            d = with(d, bay.waitsFor(train));
            d = with(d, bay.isStuck(train) ? 1 : 0);
            for (int other = 0; other < bay.many(2); other++) {
                d = with(d, bay.waitedFor(train, other));
            }
        }
        return d;
    }

    private static BigInteger with(BigInteger d, int v) {
        return d.multiply(BigInteger.valueOf(31)).add(BigInteger.valueOf(v));
    }

    /** "A number d starts with 58091; for each of the following numbers v, d becomes d * 31 + v" */
    private static void theChecksumStartsAndGoesOn() {
        BigInteger d = BigInteger.valueOf(58091);
        for (int zero = 0; zero < 8; zero++) {
            d = with(d, 0);
        }
        for (int station = 0; station <= 5; station++) {
            d = with(with(with(d, 2), 0), 0);
        }
        C.same("30: of a new object", new SemaphoreBay().digest(), d.longValue());
        SemaphoreBay bay = new SemaphoreBay();
        bay.platforms(5, 3);
        C.same("30: of the last station", bay.digest() - new SemaphoreBay().digest(), 31L * 31L);
        bay.block(9);
        BigInteger more = with(with(with(with(d.add(BigInteger.valueOf(31 * 31)), 9), -1), -1), -1);
        BigInteger oneMany = BigInteger.valueOf(31).pow(18 + 6 + 4);
        C.same("30: of a block", bay.digest(), more.add(oneMany).longValue());
    }

    /** "which wraps around as a 64-bit integer" */
    private static void theChecksumWrapsAround() {
        int below = 0;
        for (Supplier<SemaphoreBay> maker : BAYS) {
            SemaphoreBay bay = maker.get();
            for (int clock = 0; clock < 20; clock++) {
                BigInteger d = unwrapped(bay);
                C.yes("30: it is too large for 64 bits", d.bitLength() > 64);
                C.same("30: its last 64 bits", bay.digest(), d.longValue());
                below += bay.digest() < 0 ? 1 : 0;
                bay.tick(1);
            }
        }
        C.yes("30: it can be below 0", below > 20);
        C.yes("30: and above", below < 160);
    }

    /** "An object is used for at most 512 calls after it has been made" */
    private static void fiveHundredAndTwelveCalls() {
        SemaphoreBay bay = Bays.row(false, 1, 1);
        Bays.runner(bay, 1, 0, 1);
        bay.shut(1, 100);
        // Eight calls were made so far: two blocks, a route and its going on, the order, a train and its stop, shut.
        for (int call = 9; call <= 511; call++) {
            C.same("12: the most ticks", bay.tick(60), call == 9 ? 1 : 0);
        }
        C.same("13: the 512th call", bay.clock(), 503 * 60);
        SemaphoreBay stuck = Bays.after(Bays.meeting(), 3);
        for (int call = 0; call < 400; call++) {
            C.same("27: as ever", stuck.waitedWith(call % 3, 120), 240);
        }
        for (int call = 0; call < 100; call++) {
            stuck.tick(60);
        }
        C.same("21: waited for ever", stuck.waitedFor(0, 1), 6001);
        C.same("27: as ever", stuck.waitedWith(0, 120), 240);
    }
}

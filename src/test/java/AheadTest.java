import java.util.function.Supplier;

/** Promises 26 to 30: what would be, and the digest. */
public final class AheadTest {
    private static final Checks C = new Checks();

    public static void main(String[] args) {
        doneIn();
        waitedWith();
        waitedWithAnotherOrder();
        lostBy();
        lostByCanBeBelowZero();
        stuckIn();
        whatWouldBeIsWhatComes();
        nothingIsChanged();
        digestOfANewObject();
        digestOfARun();
        C.end("AheadTest");
    }

    private static void doneIn() {
        SemaphoreBay bay = Bays.shuttle(3, 1);
        C.refused("26: 0", bay, Checks.ARGUMENT, () -> bay.doneIn(0, 0));
        C.refused("26: 121", bay, Checks.ARGUMENT, () -> bay.doneIn(0, 121));
        C.refused("26: train 1", bay, Checks.INDEX, () -> bay.doneIn(1, 1));
        C.refused("26: train -1", bay, Checks.INDEX, () -> bay.doneIn(-1, 0));
        C.same("26: just", bay.doneIn(0, 5), 5);
        C.same("26: not within", bay.doneIn(0, 4), -1);
        C.same("26: long", bay.doneIn(0, 120), 5);
        bay.tick(4);
        C.same("26: one more", bay.doneIn(0, 1), 1);
        bay.tick(1);
        C.same("26: it is", bay.doneIn(0, 1), 0);
        bay.train(0, 1, 0, 0);
        C.same("26: a single stop", bay.doneIn(1, 120), -1);
        SemaphoreBay far = Bays.shuttle(3, 1);
        far.holdBack(0, 100);
        far.tick(1);
        C.same("26: over 60", far.doneIn(0, 120), 102);
    }

    private static void waitedWith() {
        SemaphoreBay bay = Bays.wholeMeeting();
        C.refused("27: order 3", bay, Checks.ARGUMENT, () -> bay.waitedWith(3, 1));
        C.refused("27: order -1", bay, Checks.ARGUMENT, () -> bay.waitedWith(-1, 1));
        C.refused("27: 0", bay, Checks.ARGUMENT, () -> bay.waitedWith(0, 0));
        C.refused("27: 121", bay, Checks.ARGUMENT, () -> bay.waitedWith(0, 121));
        C.same("27: one", bay.waitedWith(0, 1), 1);
        C.same("27: three", bay.waitedWith(0, 3), 3);
        C.same("27: all", bay.waitedWith(0, 120), 4);
        bay.tick(3);
        C.same("27: more than now", bay.waitedWith(0, 120), 1);
        SemaphoreBay stuck = Bays.meeting();
        stuck.tick(3);
        C.same("27: both stand", stuck.waitedWith(2, 120), 240);
    }

    /** Two that share one block: the slow one first lets the quick one wait longer. */
    private static void waitedWithAnotherOrder() {
        SemaphoreBay bay = new SemaphoreBay();
        bay.block(3);
        bay.route(0, 1, 0, false);
        bay.train(1, 3, 0, 0);
        bay.stop(0, 1, 0);
        bay.train(2, 1, 0, 0);
        bay.stop(1, 1, 0);
        bay.order(0, 4);
        C.same("27: by numbers", bay.waitedWith(0, 100), 9);
        C.same("27: by ranks", bay.waitedWith(1, 100), 3);
        C.same("27: by times", bay.waitedWith(2, 100), 9);
        C.same("27: the order is not changed", bay.order(0, 4), 0);
        C.same("27: the stay counts", bay.waitedWith(0, 3), 0);
    }

    private static void lostBy() {
        SemaphoreBay bay = Bays.shuttle(3, 1);
        bay.block(1);
        C.refused("28: 0", bay, Checks.ARGUMENT, () -> bay.lostBy(0, 0));
        C.refused("28: 61", bay, Checks.ARGUMENT, () -> bay.lostBy(0, 61));
        C.refused("28: block 2", bay, Checks.INDEX, () -> bay.lostBy(2, 1));
        C.refused("28: block -1", bay, Checks.INDEX, () -> bay.lostBy(-1, 0));
        C.same("28: not within anyway", bay.lostBy(0, 4), 0);
        C.same("28: just", bay.lostBy(0, 5), 1);
        C.same("28: the longest", bay.lostBy(0, 60), 1);
        C.same("28: another block", bay.lostBy(1, 60), 0);
        bay.tick(2);
        C.same("28: it is on it already", bay.lostBy(0, 60), 0);
        bay.tick(3);
        C.same("28: it is done already", bay.lostBy(0, 60), 0);
    }

    /** A block that is shut for long would be shut for less; and a lost train can let two others go. */
    private static void lostByCanBeBelowZero() {
        SemaphoreBay bay = Bays.shuttle(1, 1);
        bay.block(1);
        bay.over(0, 1);
        bay.order(0, 0);
        bay.shut(1, 50);
        C.same("28: shut for 50, asked for 10: neither", bay.lostBy(1, 10), 0);
        C.same("28: shut for 50, asked for 60: one lost", bay.lostBy(1, 60), 1);
        SemaphoreBay meet = new SemaphoreBay();
        meet.block(1);
        meet.block(2);
        meet.block(1);
        meet.route(0, 1, 2, false);
        meet.over(0, 0);
        meet.over(0, 1);
        meet.route(1, 0, 1, false);
        meet.over(1, 0);
        meet.route(2, 1, 1, false);
        meet.order(0, 0);
        int[] from = {0, 1, 2};
        int[] to = {1, 0, 1};
        for (int train = 0; train < 3; train++) {
            meet.train(0, 1, from[train], 0);
            meet.stop(train, to[train], 0);
        }
        C.same("28: they would be stuck", meet.stuckIn(60), 3);
        C.same("28: without the first the others come", meet.lostBy(2, 20), -2);
        C.same("28: with the common block shut nobody comes either way", meet.lostBy(1, 20), 0);
        meet.shut(2, 100);
        C.same("28: shut for 100, asked for 20: the same", meet.lostBy(2, 20), 0);
        C.same("28: shut for 100, asked for 1: it is too early", meet.lostBy(2, 1), 0);
    }

    private static void stuckIn() {
        SemaphoreBay bay = Bays.meeting();
        C.refused("29: 0", bay, Checks.ARGUMENT, () -> bay.stuckIn(0));
        C.refused("29: 121", bay, Checks.ARGUMENT, () -> bay.stuckIn(121));
        C.refused("29: -1", bay, Checks.ARGUMENT, () -> bay.stuckIn(-1));
        C.same("29: just", bay.stuckIn(3), 3);
        C.same("29: not within", bay.stuckIn(2), -1);
        C.same("29: the longest", bay.stuckIn(120), 3);
        bay.tick(2);
        C.same("29: one more", bay.stuckIn(1), 1);
        bay.tick(1);
        C.same("29: now", bay.stuckIn(1), 0);
        C.same("29: never", Bays.wholeMeeting().stuckIn(120), -1);
        C.same("29: no trains", new SemaphoreBay().stuckIn(120), -1);
    }

    private static void whatWouldBeIsWhatComes() {
        compareWithTwins(Bays::meeting, 6);
        compareWithTwins(Bays::wholeMeeting, 10);
        compareWithTwins(Bays::station, 40);
        compareWithTwins(Bays::full, 40);
    }

    /** At each clock, what would be must be what comes if a twin, made alike, goes on. */
    private static void compareWithTwins(Supplier<SemaphoreBay> maker, int clocks) {
        for (int clock = 1; clock < clocks; clock++) {
            SemaphoreBay bay = at(maker, clock);
            for (int train = 0; train < bay.many(2); train++) {
                C.same("26: at " + clock, bay.doneIn(train, 50), doneOfTwin(at(maker, clock), train));
            }
            for (int order = 0; order <= 2; order++) {
                SemaphoreBay twin = at(maker, clock);
                twin.order(order, Bays.STAY);
                twin.tick(50);
                C.same("27: at " + clock, bay.waitedWith(order, 50), waited(twin) - waited(bay));
            }
            for (int block = 0; block < bay.many(0); block++) {
                SemaphoreBay asItIs = at(maker, clock);
                SemaphoreBay shut = at(maker, clock);
                shut.shut(block, 15);
                C.same("28: at " + clock, bay.lostBy(block, 15), shut.tick(15) - asItIs.tick(15));
            }
            C.same("29: at " + clock, bay.stuckIn(50), stuckOfTwin(at(maker, clock)));
        }
    }

    private static SemaphoreBay at(Supplier<SemaphoreBay> maker, int clock) {
        SemaphoreBay bay = maker.get();
        bay.tick(clock);
        return bay;
    }

    private static int doneOfTwin(SemaphoreBay twin, int train) {
        for (int gone = 0; gone <= 50; gone++) {
            if (twin.ofTrain(train, 3) == twin.ofTrain(train, 2) - 1 && twin.ofTrain(train, 4) == -1) {
                return gone;
            }
            twin.tick(1);
        }
        return -1;
    }

    private static int stuckOfTwin(SemaphoreBay twin) {
        for (int gone = 0; gone <= 50; gone++) {
            if (twin.many(6) > 0) {
                return gone;
            }
            twin.tick(1);
        }
        return -1;
    }

    private static int waited(SemaphoreBay bay) {
        int sum = 0;
        for (int train = 0; train < bay.many(2); train++) {
            sum += bay.ofTrain(train, 9);
        }
        return sum;
    }

    private static void nothingIsChanged() {
        SemaphoreBay bay = Bays.meeting();
        bay.tick(1);
        String before = Picture.of(bay);
        bay.doneIn(0, 120);
        bay.waitedWith(2, 120);
        bay.lostBy(1, 60);
        bay.stuckIn(120);
        bay.digest();
        C.yes("26 to 30: nothing is changed", before.equals(Picture.of(bay)));
        C.same("26 to 30: nor the order", bay.order(0, 0), 0);
        SemaphoreBay other = Bays.meeting();
        other.tick(1);
        C.same("26 to 30: goes on alike", bay.tick(30), other.tick(30));
        C.same("26 to 30: goes on alike", bay.digest(), other.digest());
    }

    private static void digestOfANewObject() {
        long d = 58091L;
        for (int zero = 0; zero < 8; zero++) {
            d = d * 31L;
        }
        for (int station = 0; station < 6; station++) {
            d = ((d * 31L + 2L) * 31L) * 31L;
        }
        C.same("30: new", new SemaphoreBay().digest(), d);
    }

    private static void digestOfARun() {
        SemaphoreBay bay = Bays.meeting();
        bay.train(3, 2, 0, 9);
        bay.platforms(4, 3);
        bay.holdBack(2, 30);
        bay.shut(1, 20);
        for (int gone = 0; gone < 10; gone++) {
            C.same("30: clock " + bay.clock(), bay.digest(), digestByTheFace(bay));
            bay.tick(1);
        }
        C.yes("30: of another state", bay.digest() != Bays.meeting().digest());
    }

    private static long digestByTheFace(SemaphoreBay bay) {
        long d = 58091L;
        d = d * 31L + bay.clock();
        for (int what = 0; what <= 6; what++) {
            d = d * 31L + bay.many(what);
        }
        for (int number = 0; number < 6 * 3; number++) {
            d = d * 31L + bay.station(number / 3, number % 3);
        }
        for (int number = 0; number < bay.many(0) * 4; number++) {
            d = d * 31L + bay.ofBlock(number / 4, number % 4);
        }
        for (int train = 0; train < bay.many(2); train++) {
            for (int what = 0; what <= 12; what++) {
                d = d * 31L + bay.ofTrain(train, what);
            }
            d = d * 31L + bay.waitsFor(train);
            d = d * 31L + (bay.isStuck(train) ? 1 : 0);
            for (int other = 0; other < bay.many(2); other++) {
                d = d * 31L + bay.waitedFor(train, other);
            }
        }
        return d;
    }
}

/** Promises 8 to 13: trains, their plans, and the ticks. */
public final class TrainsTest {
    private static final Checks C = new Checks();

    public static void main(String[] args) {
        train();
        trainComesAsItIsAdded();
        trainNeedsRoom();
        stop();
        stopOfADoneTrain();
        stopOnTheWay();
        holdBack();
        rank();
        tickArguments();
        rolling();
        pace();
        comingThroughAStation();
        wholeRouteLocks();
        lockedBlocksAreNotClear();
        firstOpenRoute();
        roomAtTheEnd();
        blameInOrder();
        lateOnes();
        numbersGoFirstWhenRolling();
        C.end("TrainsTest");
    }

    private static void train() {
        SemaphoreBay bay = new SemaphoreBay();
        bay.tick(3);
        C.same("8: first", bay.train(9, 3, 5, 9999), 0);
        int[] due = {9, 3, 1, 0, 5, -1, -1, 0, 0, 0, 0, 0, -1};
        for (int what = 0; what <= 12; what++) {
            C.same("8: of a new train " + what, bay.ofTrain(0, what), due[what]);
        }
        C.same("8: station", bay.plan(0, 0, false), 5);
        C.same("8: time", bay.plan(0, 0, true), 9999);
        C.refused("8: station 6", bay, Checks.INDEX, () -> bay.train(0, 1, 6, 0));
        C.refused("8: station -1", bay, Checks.INDEX, () -> bay.train(0, 1, -1, 0));
        C.refused("8: station 6, rank 10", bay, Checks.INDEX, () -> bay.train(10, 1, 6, 0));
        C.refused("8: rank 10", bay, Checks.ARGUMENT, () -> bay.train(10, 1, 0, 0));
        C.refused("8: rank -1", bay, Checks.ARGUMENT, () -> bay.train(-1, 1, 0, 0));
        C.refused("8: pace 0", bay, Checks.ARGUMENT, () -> bay.train(0, 0, 0, 0));
        C.refused("8: pace 4", bay, Checks.ARGUMENT, () -> bay.train(0, 4, 0, 0));
        C.refused("8: time 10000", bay, Checks.ARGUMENT, () -> bay.train(0, 1, 0, 10000));
        C.refused("8: time -1", bay, Checks.ARGUMENT, () -> bay.train(0, 1, 0, -1));
        for (int number = 1; number < 8; number++) {
            C.same("8: number", bay.train(0, 1, number / 2, 0), number);
        }
        C.refused("8: nine", bay, Checks.STATE, () -> bay.train(0, 1, 4, 0));
        C.refused("8: nine, pace 4", bay, Checks.ARGUMENT, () -> bay.train(0, 4, 4, 0));
        C.refused("8: nine, station 6", bay, Checks.INDEX, () -> bay.train(0, 1, 6, 0));
    }

    private static void trainComesAsItIsAdded() {
        SemaphoreBay bay = Bays.shuttle(9, 1);
        bay.tick(10);
        bay.route(2, 3, 0, false);
        bay.train(0, 1, 2, 0);
        bay.stop(1, 3, 0);
        bay.tick(1);
        C.same("8: it stays first", bay.ofTrain(1, 4), 2);
        C.same("8: it stays first, and does not wait", bay.ofTrain(1, 9), 0);
        bay.tick(1);
        C.same("8: two ticks after it was added", bay.ofTrain(1, 5), 0);
        C.same("8: late by its plan", bay.ofTrain(1, 8), 12);
    }

    private static void trainNeedsRoom() {
        SemaphoreBay bay = Bays.shuttle(9, 1);
        bay.order(0, 0);
        bay.tick(1);
        C.same("8: on the way", bay.station(1, 2), 1);
        C.same("8: one more", bay.train(0, 1, 1, 0), 1);
        C.refused("8: no room, one on the way", bay, Checks.STATE, () -> bay.train(0, 1, 1, 0));
        C.refused("8: no room, rank 10", bay, Checks.ARGUMENT, () -> bay.train(10, 1, 1, 0));
        C.same("8: room where it left", bay.train(0, 1, 0, 0), 2);
        bay.tick(9);
        C.same("8: done", bay.many(3), 1);
        C.same("8: room again", bay.train(0, 1, 1, 0), 3);
    }

    private static void stop() {
        SemaphoreBay bay = new SemaphoreBay();
        C.refused("9: no train yet", bay, Checks.INDEX, () -> bay.stop(0, 0, 0));
        bay.train(0, 1, 0, 4);
        C.refused("9: train -1", bay, Checks.INDEX, () -> bay.stop(-1, 1, 4));
        C.refused("9: train 1", bay, Checks.INDEX, () -> bay.stop(1, 1, 4));
        C.refused("9: station 6", bay, Checks.INDEX, () -> bay.stop(0, 6, 4));
        C.refused("9: station -1", bay, Checks.INDEX, () -> bay.stop(0, -1, 4));
        C.refused("9: station 6, time -1", bay, Checks.INDEX, () -> bay.stop(0, 6, -1));
        C.refused("9: time 3", bay, Checks.ARGUMENT, () -> bay.stop(0, 1, 3));
        C.refused("9: time -1", bay, Checks.ARGUMENT, () -> bay.stop(0, 1, -1));
        C.refused("9: time 10000", bay, Checks.ARGUMENT, () -> bay.stop(0, 1, 10000));
        C.refused("9: the same station", bay, Checks.ARGUMENT, () -> bay.stop(0, 0, 5));
        int[] times = {4, 4, 5, 9, 9, 9998, 9999, 9999};
        for (int count = 2; count <= 8; count++) {
            C.same("9: how many", bay.stop(0, (count - 1) % 2, times[count - 1]), count);
        }
        for (int number = 0; number < 8; number++) {
            C.same("9: station", bay.plan(0, number, false), number % 2);
            C.same("9: time", bay.plan(0, number, true), times[number]);
        }
        C.refused("9: nine", bay, Checks.STATE, () -> bay.stop(0, 0, 9999));
        C.refused("9: nine, the same station", bay, Checks.ARGUMENT, () -> bay.stop(0, 1, 9999));
        C.refused("9: nine, too early", bay, Checks.ARGUMENT, () -> bay.stop(0, 0, 9998));
    }

    private static void stopOfADoneTrain() {
        SemaphoreBay bay = Bays.shuttle(1, 1);
        bay.tick(3);
        C.same("9: done", bay.many(3), 1);
        C.refused("9: done", bay, Checks.STATE, () -> bay.stop(0, 0, 9));
        C.refused("9: done, too early", bay, Checks.ARGUMENT, () -> bay.stop(0, 0, 4));
        bay.train(0, 1, 4, 0);
        bay.tick(60);
        C.same("9: a single stop is not done", bay.stop(1, 3, 0), 2);
    }

    private static void stopOnTheWay() {
        SemaphoreBay bay = Bays.shuttle(2, 1);
        bay.tick(3);
        C.same("9: on the way", bay.ofTrain(0, 5), 0);
        C.same("9: one stop more", bay.stop(0, 0, 5), 3);
        bay.tick(1);
        C.same("9: came, not done", bay.ofTrain(0, 4), 1);
        C.same("9: the stop", bay.ofTrain(0, 3), 1);
        C.same("9: not late yet", bay.ofTrain(0, 8), 2);
    }

    private static void holdBack() {
        SemaphoreBay bay = Bays.shuttle(1, 1);
        bay.tick(1);
        C.same("10: till", bay.holdBack(0, 100), 101);
        C.same("10: again", bay.holdBack(0, 4), 5);
        C.same("10: asked", bay.ofTrain(0, 12), 5);
        C.refused("10: 101", bay, Checks.ARGUMENT, () -> bay.holdBack(0, 101));
        C.refused("10: -1", bay, Checks.ARGUMENT, () -> bay.holdBack(0, -1));
        C.refused("10: train 1", bay, Checks.INDEX, () -> bay.holdBack(1, 1));
        C.refused("10: train -1", bay, Checks.INDEX, () -> bay.holdBack(-1, 101));
        bay.tick(3);
        C.same("10: still", bay.ofTrain(0, 12), 5);
        C.same("10: not ready", bay.ofTrain(0, 10), 0);
        C.same("10: at the station", bay.ofTrain(0, 4), 0);
        bay.tick(1);
        C.same("10: over", bay.ofTrain(0, 12), -1);
        C.same("10: set out", bay.ofTrain(0, 5), 0);
        C.same("10: late", bay.ofTrain(0, 8), 5);
        C.same("10: did not wait", bay.ofTrain(0, 9), 0);
        C.same("10: on the way too", bay.holdBack(0, 1), 6);
        bay.tick(1);
        C.same("10: rolls all the same", bay.many(3), 1);
        C.same("10: done too", bay.holdBack(0, 3), 9);
        SemaphoreBay other = Bays.shuttle(1, 1);
        other.holdBack(0, 50);
        C.same("10: no more", other.holdBack(0, 0), -1);
        other.tick(2);
        C.same("10: set out at once", other.ofTrain(0, 5), 0);
    }

    private static void rank() {
        SemaphoreBay bay = new SemaphoreBay();
        bay.train(4, 1, 0, 0);
        C.same("11: before", bay.rank(0, 0), 4);
        C.same("11: then", bay.rank(0, 9), 0);
        C.same("11: asked", bay.ofTrain(0, 0), 9);
        C.refused("11: 10", bay, Checks.ARGUMENT, () -> bay.rank(0, 10));
        C.refused("11: -1", bay, Checks.ARGUMENT, () -> bay.rank(0, -1));
        C.refused("11: train 1", bay, Checks.INDEX, () -> bay.rank(1, 1));
        C.refused("11: train -1", bay, Checks.INDEX, () -> bay.rank(-1, 10));
        SemaphoreBay race = new SemaphoreBay();
        race.block(1);
        race.route(0, 1, 0, false);
        race.order(1, 0);
        for (int train = 0; train < 2; train++) {
            race.train(5, 1, 0, 0);
            race.stop(train, 1, 0);
        }
        race.rank(1, 6);
        race.tick(1);
        C.same("11: the greater rank set out", race.ofBlock(0, 1), 1);
    }

    private static void tickArguments() {
        SemaphoreBay bay = new SemaphoreBay();
        C.refused("12: 0", bay, Checks.ARGUMENT, () -> bay.tick(0));
        C.refused("12: -1", bay, Checks.ARGUMENT, () -> bay.tick(-1));
        C.refused("12: 61", bay, Checks.ARGUMENT, () -> bay.tick(61));
        C.same("12: no trains", bay.tick(60), 0);
        C.same("13: clock", bay.clock(), 60);
        bay.train(0, 1, 0, 0);
        C.same("12: one", bay.tick(1), 1);
        C.same("13: clock", bay.clock(), 61);
        SemaphoreBay shuttle = Bays.shuttle(1, 1);
        shuttle.train(0, 1, 3, 0);
        C.same("12: two not done", shuttle.tick(2), 2);
        C.same("12: one not done", shuttle.tick(1), 1);
        C.same("13: clock", shuttle.clock(), 3);
    }

    private static void rolling() {
        SemaphoreBay bay = Bays.shuttle(3, 1);
        bay.block(2);
        bay.over(0, 1);
        bay.tick(1);
        C.same("12: the stay is not over", bay.ofTrain(0, 4), 0);
        C.same("12: nor has it waited", bay.ofTrain(0, 9), 0);
        bay.tick(1);
        int[] blocks = {0, 0, 0, 1, 1, -1};
        int[] left = {3, 2, 1, 2, 1, 0};
        for (int gone = 0; gone < blocks.length; gone++) {
            C.same("12: block after " + gone, bay.ofTrain(0, 5), blocks[gone]);
            C.same("12: left after " + gone, bay.ofTrain(0, 7), left[gone]);
            C.same("12: held by it", bay.ofBlock(0, 1), blocks[gone] == 0 ? 0 : -1);
            C.same("12: held by it", bay.ofBlock(1, 1), blocks[gone] == 1 ? 0 : -1);
            C.same("12: never locked", bay.ofBlock(1, 2), -1);
            bay.tick(1);
        }
        C.same("12: done", bay.many(3), 1);
        C.same("12: nowhere", bay.ofTrain(0, 4), -1);
        C.same("12: no route", bay.ofTrain(0, 6), -1);
    }

    private static void pace() {
        for (int pace = 1; pace <= 3; pace++) {
            SemaphoreBay bay = Bays.shuttle(9, pace);
            bay.block(1);
            bay.over(0, 1);
            bay.tick(2);
            C.same("12: left", bay.ofTrain(0, 7), 9 * pace);
            bay.tick(9 * pace);
            C.same("12: left on the next", bay.ofTrain(0, 7), pace);
            C.same("12: on the next", bay.ofTrain(0, 5), 1);
            bay.tick(pace - 1 == 0 ? 1 : pace - 1);
            C.same("12: done", bay.many(3), pace == 1 ? 1 : 0);
        }
    }

    /** With a stay of 0 it sets out again with the very tick with which it came; with 2, two later. */
    private static void comingThroughAStation() {
        for (int stay = 0; stay <= 2; stay++) {
            SemaphoreBay bay = Bays.shuttle(1, 1);
            bay.block(1);
            bay.route(1, 2, 1, false);
            bay.stop(0, 2, 5);
            bay.order(0, stay);
            bay.shut(0, 6);
            bay.tick(6);
            C.same("12: on the first", bay.ofTrain(0, 5), 0);
            bay.tick(1);
            C.same("12: the stop", bay.ofTrain(0, 3), 1);
            C.same("12: through at once", bay.ofTrain(0, 5), stay == 0 ? 1 : -1);
            C.same("12: at the station", bay.ofTrain(0, 4), stay == 0 ? -1 : 1);
            bay.tick(stay == 0 ? 1 : stay);
            C.same("12: out", bay.many(3), stay == 0 ? 1 : 0);
            C.same("12: out", bay.ofTrain(0, 6), stay == 0 ? -1 : 1);
            C.same("12: late", bay.ofTrain(0, 8), stay == 0 ? 3 : 2 + stay);
        }
    }

    private static void wholeRouteLocks() {
        SemaphoreBay bay = Bays.wholeMeeting();
        bay.block(1);
        bay.over(0, 2);
        bay.tick(1);
        C.same("12: first held", bay.ofBlock(0, 1), 0);
        C.same("12: first not locked", bay.ofBlock(0, 2), -1);
        C.same("12: second locked", bay.ofBlock(1, 2), 0);
        C.same("12: third locked", bay.ofBlock(2, 2), 0);
        C.same("12: second not held", bay.ofBlock(1, 1), -1);
        C.same("12: the other one waits", bay.waitsFor(1), 0);
        bay.tick(2);
        C.same("12: second held", bay.ofBlock(1, 1), 0);
        C.same("12: second locked no more", bay.ofBlock(1, 2), -1);
        C.same("12: third still locked", bay.ofBlock(2, 2), 0);
        C.same("12: first free", bay.ofBlock(0, 1), -1);
        C.same("12: the other one waits on", bay.ofTrain(1, 9), 3);
        bay.tick(2);
        C.same("12: the other one set out", bay.ofTrain(1, 5), 1);
        C.same("12: its lock", bay.ofBlock(0, 2), 1);
        bay.tick(3);
        C.same("12: both came", bay.many(3), 1);
        bay.tick(1);
        C.same("12: both came", bay.many(3), 2);
        for (int block = 0; block < 3; block++) {
            C.same("12: none held", bay.ofBlock(block, 1), -1);
            C.same("12: none locked", bay.ofBlock(block, 2), -1);
        }
    }

    private static void lockedBlocksAreNotClear() {
        SemaphoreBay bay = new SemaphoreBay();
        bay.block(2);
        bay.block(1);
        bay.block(1);
        bay.route(0, 1, 0, true);
        bay.over(0, 1);
        bay.route(2, 3, 2, false);
        bay.over(1, 1);
        bay.order(0, 0);
        bay.train(0, 3, 0, 0);
        bay.stop(0, 1, 0);
        bay.train(0, 1, 2, 0);
        bay.stop(1, 3, 0);
        bay.tick(1);
        C.same("12: sets out, only its first block need be clear", bay.ofTrain(1, 5), 2);
        bay.tick(1);
        C.same("12: stands before a locked one", bay.ofTrain(1, 11), 1);
        C.same("12: for that for which it is locked", bay.waitsFor(1), 0);
        bay.shut(1, 100);
        bay.tick(4);
        C.same("12: shut and locked: blames the other", bay.waitsFor(1), 0);
        bay.tick(1);
        C.same("12: a shut block of its own lock", bay.ofTrain(0, 11), 1);
        C.same("12: stands for none", bay.waitsFor(0), -1);
        C.same("12: waited for it", bay.waitedFor(1, 0), 6);
        bay.shut(1, 0);
        bay.tick(1);
        C.same("12: went on", bay.ofTrain(0, 5), 1);
        C.same("12: by numbers: the second saw it held", bay.waitsFor(1), 0);
        bay.tick(3);
        C.same("12: the first came, and the second went on with the same tick", bay.ofTrain(1, 5), 1);
        C.same("12: waits for none", bay.waitsFor(1), -1);
    }

    private static void firstOpenRoute() {
        SemaphoreBay bay = new SemaphoreBay();
        for (int block = 0; block < 4; block++) {
            bay.block(block + 1);
        }
        bay.route(1, 0, 3, false);
        bay.route(0, 2, 3, false);
        bay.route(0, 1, 0, true);
        bay.over(2, 3);
        bay.route(0, 1, 1, false);
        bay.over(3, 3);
        bay.route(0, 1, 2, false);
        bay.order(0, 0);
        bay.platforms(1, 4);
        for (int train = 0; train < 2; train++) {
            bay.train(0, 1, 0, 0);
            bay.stop(train, 1, 0);
        }
        bay.shut(3, 1);
        bay.tick(1);
        C.same("12: the first that is open", bay.ofTrain(0, 6), 2);
        C.same("12: the next one", bay.ofTrain(1, 6), 3);
        SemaphoreBay other = new SemaphoreBay();
        other.block(1);
        other.block(2);
        other.block(3);
        other.route(0, 1, 0, true);
        other.over(0, 2);
        other.route(0, 1, 1, false);
        other.over(1, 2);
        other.order(0, 0);
        other.train(0, 1, 0, 0);
        other.stop(0, 1, 0);
        other.shut(2, 9);
        other.tick(1);
        C.same("12: the whole one is not open", other.ofTrain(0, 6), 1);
        other.tick(2);
        C.same("12: and it stands", other.ofTrain(0, 11), 1);
    }

    private static void roomAtTheEnd() {
        SemaphoreBay bay = new SemaphoreBay();
        bay.block(2);
        bay.block(2);
        bay.route(0, 1, 0, false);
        bay.route(0, 1, 1, false);
        bay.platforms(1, 1);
        bay.order(0, 0);
        for (int train = 0; train < 2; train++) {
            bay.train(0, 1, 0, 0);
            bay.stop(train, 1, 0);
        }
        bay.tick(1);
        C.same("12: the first set out", bay.ofTrain(0, 5), 0);
        C.same("12: no room for the second", bay.ofTrain(1, 4), 0);
        C.same("12: waited", bay.ofTrain(1, 9), 1);
        C.same("12: for the one in the way on the first route", bay.waitsFor(1), 0);
        bay.tick(2);
        C.same("12: a train that is done gives room with this tick", bay.ofTrain(1, 5), 0);
        SemaphoreBay full = Bays.shuttle(1, 1);
        full.platforms(1, 1);
        full.train(0, 1, 1, 0);
        full.tick(5);
        C.same("12: full", full.ofTrain(0, 9), 4);
        C.same("12: no room is nobody's fault", full.waitsFor(0), -1);
        C.same("12: nor counted for it", full.waitedFor(0, 1), 0);
        SemaphoreBay none = new SemaphoreBay();
        none.train(0, 1, 0, 0);
        none.stop(0, 1, 0);
        none.tick(4);
        C.same("12: without a route it waits", none.ofTrain(0, 9), 3);
        C.same("12: for none", none.waitsFor(0), -1);
        none.block(9);
        none.route(1, 0, 0, false);
        none.train(0, 1, 1, 0);
        none.stop(1, 0, 0);
        none.tick(3);
        C.same("12: the other one is on a route that does not lead there", none.ofBlock(0, 1), 1);
        C.same("12: it is not to blame", none.waitsFor(0), -1);
    }

    /** The first block that is not clear counts, even if it is only shut, and only on the first route. */
    private static void blameInOrder() {
        SemaphoreBay bay = new SemaphoreBay();
        bay.block(1);
        bay.block(9);
        bay.route(0, 1, 0, true);
        bay.over(0, 1);
        bay.route(2, 3, 1, false);
        bay.route(0, 1, 1, false);
        bay.order(0, 0);
        bay.train(0, 1, 0, 3);
        bay.stop(0, 1, 3);
        bay.train(0, 1, 2, 0);
        bay.stop(1, 3, 0);
        bay.tick(2);
        C.same("12: before its time it does not wait", bay.ofTrain(0, 9), 0);
        bay.tick(1);
        C.same("12: blames the holder", bay.waitsFor(0), 1);
        bay.shut(0, 2);
        bay.tick(1);
        C.same("12: the first is only shut", bay.waitsFor(0), -1);
        bay.shut(1, 9);
        bay.tick(1);
        C.same("12: held and shut", bay.waitsFor(0), 1);
        C.same("12: waited", bay.ofTrain(0, 9), 3);
        C.same("12: waited for it", bay.waitedFor(0, 1), 2);
    }

    private static void lateOnes() {
        SemaphoreBay bay = Bays.shuttle(1, 1);
        bay.block(9);
        bay.route(1, 0, 1, false);
        bay.stop(0, 0, 30);
        C.same("12: not late", bay.ofTrain(0, 8), 0);
        bay.tick(1);
        C.same("12: not late ahead of setting out", bay.ofTrain(0, 8), 0);
        bay.tick(1);
        C.same("12: as it sets out", bay.ofTrain(0, 8), 2);
        bay.tick(1);
        C.same("12: the same as it comes to a stop that is not its last", bay.ofTrain(0, 8), 2);
        bay.tick(2);
        C.same("12: the time of the stop", bay.ofTrain(0, 5), 1);
        C.same("12: in time", bay.ofTrain(0, 8), 0);
        bay.tick(9);
        C.same("12: done ahead of the time", bay.ofTrain(0, 8), 0);
        C.same("12: done", bay.many(3), 1);
        SemaphoreBay slow = Bays.shuttle(9, 2);
        slow.tick(20);
        C.same("12: late at the end", slow.ofTrain(0, 8), 15);
        slow.tick(20);
        C.same("12: the same from then on", slow.ofTrain(0, 8), 15);
    }

    /** Of two that roll in a row, the one behind gets on with the same tick only if its number is greater. */
    private static void numbersGoFirstWhenRolling() {
        for (int ahead = 0; ahead < 2; ahead++) {
            int behind = 1 - ahead;
            SemaphoreBay bay = new SemaphoreBay();
            bay.block(1);
            bay.block(2);
            bay.route(0, 1, 0, false);
            bay.over(0, 1);
            bay.order(1, 0);
            bay.train(behind, 1, 0, 0);
            bay.stop(0, 1, 0);
            bay.train(ahead, 1, 0, 0);
            bay.stop(1, 1, 0);
            bay.tick(2);
            C.same("12: ahead", bay.ofTrain(ahead, 5), 1);
            C.same("12: behind", bay.ofTrain(behind, 5), 0);
            bay.tick(1);
            C.same("12: behind stands", bay.ofTrain(behind, 11), 1);
            bay.tick(1);
            C.same("12: ahead came", bay.many(3), 1);
            C.same("12: behind", bay.ofTrain(behind, 5), ahead == 0 ? 1 : 0);
        }
    }
}

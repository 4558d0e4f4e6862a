/** Promises 14 to 25: asking. */
public final class AskingTest {
    private static final Checks C = new Checks();

    public static void main(String[] args) {
        many();
        station();
        ofBlock();
        onRoute();
        ofRoute();
        ofTrain();
        ready();
        plan();
        waiting();
        stuck();
        ringOfThree();
        isOpen();
        meanLate();
        askingAFullLine();
        askingChangesNothing();
        C.end("AskingTest");
    }

    private static void many() {
        SemaphoreBay bay = Bays.meeting();
        bay.train(0, 1, 4, 0);
        C.refused("14: 7", bay, Checks.ARGUMENT, () -> bay.many(7));
        C.refused("14: -1", bay, Checks.ARGUMENT, () -> bay.many(-1));
        int[] first = {2, 2, 3, 0, 3, 0, 0};
        int[] met = {2, 2, 3, 0, 1, 2, 2};
        for (int what = 0; what <= 6; what++) {
            C.same("14: at first " + what, bay.many(what), first[what]);
        }
        bay.tick(3);
        for (int what = 0; what <= 6; what++) {
            C.same("14: met " + what, bay.many(what), met[what]);
        }
        SemaphoreBay whole = Bays.wholeMeeting();
        whole.tick(5);
        C.same("14: done", whole.many(3), 1);
        C.same("14: at", whole.many(4), 0);
        C.same("14: on", whole.many(5), 1);
        C.same("14: stuck", whole.many(6), 0);
    }

    private static void station() {
        SemaphoreBay bay = Bays.wholeMeeting();
        bay.train(0, 1, 1, 0);
        C.refused("15: station 6", bay, Checks.INDEX, () -> bay.station(6, 0));
        C.refused("15: station -1", bay, Checks.INDEX, () -> bay.station(-1, 3));
        C.refused("15: 3", bay, Checks.ARGUMENT, () -> bay.station(0, 3));
        C.refused("15: -1", bay, Checks.ARGUMENT, () -> bay.station(5, -1));
        C.same("15: at 0", bay.station(0, 1), 1);
        C.same("15: at 1", bay.station(1, 1), 2);
        C.same("15: platforms", bay.station(1, 0), 2);
        bay.platforms(1, 4);
        bay.tick(1);
        C.same("15: platforms now", bay.station(1, 0), 4);
        C.same("15: left 0", bay.station(0, 1), 0);
        C.same("15: on the way to 1", bay.station(1, 2), 1);
        C.same("15: on the way to 0", bay.station(0, 2), 0);
        bay.tick(4);
        C.same("15: came and is done", bay.station(1, 1), 1);
        C.same("15: nobody on the way", bay.station(1, 2), 0);
        C.same("15: on the way to 0", bay.station(0, 2), 1);
    }

    private static void ofBlock() {
        SemaphoreBay bay = Bays.wholeMeeting();
        C.refused("16: block 2", bay, Checks.INDEX, () -> bay.ofBlock(2, 0));
        C.refused("16: block -1", bay, Checks.INDEX, () -> bay.ofBlock(-1, 4));
        C.refused("16: 4", bay, Checks.ARGUMENT, () -> bay.ofBlock(0, 4));
        C.refused("16: -1", bay, Checks.ARGUMENT, () -> bay.ofBlock(0, -1));
        bay.tick(1);
        bay.shut(1, 3);
        int[][] due = {{2, 0, -1, -1}, {2, -1, 0, 4}};
        for (int block = 0; block < 2; block++) {
            for (int what = 0; what <= 3; what++) {
                C.same("16: " + block + " " + what, bay.ofBlock(block, what), due[block][what]);
            }
        }
        bay.tick(2);
        C.same("16: shut still", bay.ofBlock(1, 3), 4);
        bay.tick(1);
        C.same("16: shut no more", bay.ofBlock(1, 3), -1);
        C.same("16: held", bay.ofBlock(1, 1), 0);
        C.same("16: locked no more", bay.ofBlock(1, 2), -1);
    }

    private static void onRoute() {
        SemaphoreBay bay = Bays.meeting();
        C.same("17: 1, 0", bay.onRoute(1, 0), 1);
        C.same("17: 1, 1", bay.onRoute(1, 1), 0);
        C.refused("17: place 2", bay, Checks.INDEX, () -> bay.onRoute(1, 2));
        C.refused("17: place -1", bay, Checks.INDEX, () -> bay.onRoute(1, -1));
        C.refused("17: route 2", bay, Checks.INDEX, () -> bay.onRoute(2, 0));
        C.refused("17: route -1", bay, Checks.INDEX, () -> bay.onRoute(-1, 0));
    }

    private static void ofRoute() {
        SemaphoreBay bay = new SemaphoreBay();
        bay.block(9);
        bay.block(4);
        bay.route(5, 2, 1, true);
        bay.over(0, 0);
        bay.route(2, 5, 0, false);
        int[][] due = {{5, 2, 2, 1, 13}, {2, 5, 1, 0, 9}};
        for (int route = 0; route < 2; route++) {
            for (int what = 0; what <= 4; what++) {
                C.same("18: " + route + " " + what, bay.ofRoute(route, what), due[route][what]);
            }
        }
        C.refused("18: 5", bay, Checks.ARGUMENT, () -> bay.ofRoute(0, 5));
        C.refused("18: -1", bay, Checks.ARGUMENT, () -> bay.ofRoute(0, -1));
        C.refused("18: route 2", bay, Checks.INDEX, () -> bay.ofRoute(2, 0));
        C.refused("18: route -1", bay, Checks.INDEX, () -> bay.ofRoute(-1, 5));
    }

    private static void ofTrain() {
        SemaphoreBay bay = Bays.meeting();
        C.refused("19: 13", bay, Checks.ARGUMENT, () -> bay.ofTrain(0, 13));
        C.refused("19: -1", bay, Checks.ARGUMENT, () -> bay.ofTrain(0, -1));
        C.refused("19: train 2", bay, Checks.INDEX, () -> bay.ofTrain(2, 0));
        C.refused("19: train -1", bay, Checks.INDEX, () -> bay.ofTrain(-1, 13));
        bay.holdBack(1, 2);
        bay.tick(1);
        same(bay, 0, new int[] {1, 1, 2, 0, -1, 0, 0, 2, 1, 0, 0, 0, -1});
        same(bay, 1, new int[] {2, 1, 2, 0, 1, -1, -1, 0, 0, 0, 0, 0, 2});
        bay.tick(1);
        same(bay, 0, new int[] {1, 1, 2, 0, -1, 0, 0, 1, 1, 0, 0, 0, -1});
        same(bay, 1, new int[] {2, 1, 2, 0, -1, 1, 1, 2, 2, 0, 0, 0, -1});
        bay.tick(3);
        same(bay, 0, new int[] {1, 1, 2, 0, -1, 0, 0, 0, 1, 3, 0, 1, -1});
        same(bay, 1, new int[] {2, 1, 2, 0, -1, 1, 1, 0, 2, 2, 0, 1, -1});
        SemaphoreBay done = Bays.shuttle(2, 3);
        done.tick(20);
        same(done, 0, new int[] {0, 3, 2, 1, -1, -1, -1, 0, 3, 0, 0, 0, -1});
    }

    private static void same(SemaphoreBay bay, int train, int[] due) {
        for (int what = 0; what <= 12; what++) {
            C.same("19: clock " + bay.clock() + ", " + train + " " + what, bay.ofTrain(train, what), due[what]);
        }
    }

    private static void ready() {
        SemaphoreBay bay = new SemaphoreBay();
        bay.train(0, 1, 0, 4);
        bay.order(0, 3);
        bay.tick(4);
        C.same("19: its last stop", bay.ofTrain(0, 10), 0);
        bay.stop(0, 1, 9);
        C.same("19: ready as soon as it has a stop more", bay.ofTrain(0, 10), 1);
        bay.order(0, 5);
        C.same("19: the stay", bay.ofTrain(0, 10), 0);
        bay.order(0, 4);
        C.same("19: just the stay", bay.ofTrain(0, 10), 1);
        bay.holdBack(0, 1);
        C.same("19: held back", bay.ofTrain(0, 10), 0);
        bay.tick(1);
        C.same("19: ready", bay.ofTrain(0, 10), 1);
        bay.train(0, 1, 0, 6);
        bay.stop(1, 1, 6);
        bay.order(0, 0);
        C.same("19: ahead of its time", bay.ofTrain(1, 10), 0);
        bay.tick(1);
        C.same("19: at its time", bay.ofTrain(1, 10), 1);
    }

    private static void plan() {
        SemaphoreBay bay = new SemaphoreBay();
        bay.train(0, 1, 3, 2);
        bay.stop(0, 5, 2);
        bay.stop(0, 0, 7);
        int[] stations = {3, 5, 0};
        int[] times = {2, 2, 7};
        for (int stop = 0; stop < 3; stop++) {
            C.same("20: station", bay.plan(0, stop, false), stations[stop]);
            C.same("20: time", bay.plan(0, stop, true), times[stop]);
        }
        C.refused("20: stop 3", bay, Checks.INDEX, () -> bay.plan(0, 3, false));
        C.refused("20: stop -1", bay, Checks.INDEX, () -> bay.plan(0, -1, true));
        C.refused("20: train 1", bay, Checks.INDEX, () -> bay.plan(1, 0, true));
        C.refused("20: train -1", bay, Checks.INDEX, () -> bay.plan(-1, 0, true));
    }

    private static void waiting() {
        SemaphoreBay bay = Bays.wholeMeeting();
        C.refused("21: train 2", bay, Checks.INDEX, () -> bay.waitedFor(2, 0));
        C.refused("21: other 2", bay, Checks.INDEX, () -> bay.waitedFor(0, 2));
        C.refused("21: train -1", bay, Checks.INDEX, () -> bay.waitedFor(-1, 0));
        C.refused("21: other -1", bay, Checks.INDEX, () -> bay.waitedFor(0, -1));
        C.refused("22: train 2", bay, Checks.INDEX, () -> bay.waitsFor(2));
        C.refused("22: train -1", bay, Checks.INDEX, () -> bay.waitsFor(-1));
        C.same("22: at first", bay.waitsFor(1), -1);
        bay.tick(4);
        C.same("21: the second for the first", bay.waitedFor(1, 0), 4);
        C.same("21: the first for the second", bay.waitedFor(0, 1), 0);
        C.same("21: itself", bay.waitedFor(1, 1), 0);
        C.same("22: the second", bay.waitsFor(1), 0);
        C.same("22: the first", bay.waitsFor(0), -1);
        bay.holdBack(1, 1);
        C.same("22: of the latest tick", bay.waitsFor(1), 0);
        bay.tick(1);
        C.same("22: no more", bay.waitsFor(1), -1);
        C.same("21: kept", bay.waitedFor(1, 0), 4);
        SemaphoreBay first = Bays.shuttle(1, 1);
        first.train(0, 1, 2, 0);
        first.stop(1, 1, 0);
        first.block(9);
        first.route(2, 1, 1, false);
        first.over(0, 1);
        first.order(0, 1);
        first.tick(2);
        C.same("22: the first train waits", first.waitsFor(0), 1);
        first.tick(10);
        C.same("22: the first train no more", first.waitsFor(0), -1);
        C.same("21: ticks of it, the last as the other came", first.waitedFor(0, 1), 9);
        SemaphoreBay twice = Bays.wholeMeeting();
        twice.tick(3);
        twice.holdBack(1, 5);
        C.same("22: held back, of the latest tick", twice.waitsFor(1), 0);
        twice.tick(1);
        C.same("22: held back, it does not wait", twice.waitsFor(1), -1);
        C.same("21: held back, it does not wait", twice.waitedFor(1, 0), 3);
    }

    private static void stuck() {
        SemaphoreBay bay = Bays.meeting();
        bay.train(0, 1, 0, 0);
        bay.stop(2, 1, 0);
        C.refused("23: train 3", bay, Checks.INDEX, () -> bay.isStuck(3) ? 1 : 0);
        C.refused("23: train -1", bay, Checks.INDEX, () -> bay.isStuck(-1) ? 1 : 0);
        C.no("23: without a tick", bay.isStuck(0));
        bay.tick(2);
        C.no("23: not yet", bay.isStuck(0));
        bay.tick(1);
        C.yes("23: the first", bay.isStuck(0));
        C.yes("23: the second", bay.isStuck(1));
        C.same("23: the third waits for one of them", bay.waitsFor(2), 0);
        C.no("23: the third", bay.isStuck(2));
        C.same("23: many", bay.many(6), 2);
        bay.shut(0, 5);
        bay.shut(1, 5);
        bay.tick(1);
        C.yes("23: also if the blocks are shut", bay.isStuck(1));
    }

    /** Three trains in a ring of three blocks, each before the block of the next one. */
    private static void ringOfThree() {
        SemaphoreBay bay = new SemaphoreBay();
        for (int block = 0; block < 3; block++) {
            bay.block(1);
        }
        bay.order(0, 0);
        for (int train = 0; train < 3; train++) {
            bay.route(train, train + 3, train, false);
            bay.over(train, (train + 1) % 3);
            bay.train(0, train + 1, train, 0);
            bay.stop(train, train + 3, 0);
        }
        bay.tick(3);
        C.same("23: two stand", bay.many(6), 0);
        C.same("23: the second waits for the third", bay.waitsFor(1), 2);
        bay.tick(1);
        for (int train = 0; train < 3; train++) {
            C.yes("23: in the ring", bay.isStuck(train));
            C.same("22: in the ring", bay.waitsFor(train), (train + 1) % 3);
        }
        C.same("23: many", bay.many(6), 3);
        C.same("29: now", bay.stuckIn(1), 0);
    }

    private static void isOpen() {
        SemaphoreBay bay = Bays.wholeMeeting();
        bay.block(1);
        bay.route(4, 1, 2, false);
        bay.over(2, 1);
        bay.route(4, 5, 1, true);
        C.refused("24: train 2", bay, Checks.INDEX, () -> bay.isOpen(2, 0) ? 1 : 0);
        C.refused("24: route 4", bay, Checks.INDEX, () -> bay.isOpen(0, 4) ? 1 : 0);
        C.refused("24: train -1", bay, Checks.INDEX, () -> bay.isOpen(-1, 0) ? 1 : 0);
        C.refused("24: route -1", bay, Checks.INDEX, () -> bay.isOpen(0, -1) ? 1 : 0);
        for (int route = 0; route < 4; route++) {
            C.yes("24: all are open, wherever it is", bay.isOpen(1, route));
        }
        bay.shut(1, 1);
        C.no("24: the second block of a whole one is shut", bay.isOpen(0, 0));
        C.yes("24: the second block of another one is shut", bay.isOpen(0, 2));
        bay.tick(1);
        C.yes("24: locked for itself", bay.isOpen(0, 3));
        C.no("24: locked for another one", bay.isOpen(1, 3));
        C.no("24: held by itself", bay.isOpen(0, 0));
        C.no("24: held by another one", bay.isOpen(1, 0));
        C.no("24: no room, one there and one on the way", bay.isOpen(1, 2));
        bay.platforms(1, 3);
        C.yes("24: only the first need be clear", bay.isOpen(1, 2));
        bay.platforms(1, 1);
        C.no("24: no room", bay.isOpen(1, 2));
        C.yes("24: room elsewhere", bay.isOpen(0, 3));
        bay.platforms(1, 2);
        bay.tick(4);
        C.same("24: done", bay.ofTrain(0, 4), -1);
        C.yes("24: open for one that is done", bay.isOpen(0, 2));
    }

    private static void meanLate() {
        SemaphoreBay bay = Bays.shuttle(9, 1);
        C.sameDouble("25: none is late", bay.meanLate(), 0.0);
        bay.tick(2);
        C.sameDouble("25: one", bay.meanLate(), 2.0);
        bay.train(0, 1, 3, 0);
        C.sameDouble("25: of two", bay.meanLate(), 1.0);
        bay.train(0, 1, 4, 0);
        C.sameDouble("25: of three", bay.meanLate(), 2.0 / 3.0);
        bay.tick(9);
        C.sameDouble("25: those that are done too", bay.meanLate(), 6.0 / 3.0);
    }

    private static void askingAFullLine() {
        SemaphoreBay bay = Bays.full();
        int[] due = {16, 16, 8, 0, 8, 0, 0};
        for (int what = 0; what <= 6; what++) {
            C.same("14: full " + what, bay.many(what), due[what]);
        }
        C.refused("14: full", bay, Checks.STATE, () -> bay.block(1));
        C.refused("5: full", bay, Checks.STATE, () -> bay.over(15, 1));
        for (int gone = 0; gone < 30; gone++) {
            bay.tick(2);
            C.same("14: each is somewhere, or done", bay.many(3) + bay.many(4) + bay.many(5), 8);
            C.sameDouble("25: of eight", bay.meanLate() * 8, lateTogether(bay));
        }
        SemaphoreBay eight = new SemaphoreBay();
        eight.block(1);
        eight.block(1);
        eight.route(0, 1, 0, false);
        for (int train = 0; train < 8; train++) {
            eight.train(0, 1, train / 2, 0);
        }
        C.same("5: none of eight trains is on it", eight.over(0, 1), 2);
    }

    private static int lateTogether(SemaphoreBay bay) {
        int sum = 0;
        for (int train = 0; train < bay.many(2); train++) {
            sum += bay.ofTrain(train, 8);
        }
        return sum;
    }

    private static void askingChangesNothing() {
        SemaphoreBay bay = Bays.meeting();
        bay.tick(2);
        String before = Picture.of(bay);
        C.yes("14 to 25: nothing is changed", before.equals(Picture.of(bay)));
    }
}

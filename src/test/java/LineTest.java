/** Promises 1 to 7: a new object, and the line. */
public final class LineTest {
    private static final Checks C = new Checks();

    public static void main(String[] args) {
        aNewObject();
        platforms();
        platformsLetTrainsStay();
        block();
        route();
        over();
        overARouteInUse();
        shut();
        shutHoldsUpTrains();
        order();
        orderDecidesWhoGoesFirst();
        stay();
        C.end("LineTest");
    }

    private static void aNewObject() {
        SemaphoreBay bay = new SemaphoreBay();
        for (int what = 0; what <= 6; what++) {
            C.same("1: many " + what, bay.many(what), 0);
        }
        for (int station = 0; station <= 5; station++) {
            C.same("1: platforms", bay.station(station, 0), 2);
            C.same("1: at", bay.station(station, 1), 0);
            C.same("1: on the way", bay.station(station, 2), 0);
        }
        C.same("1: clock", bay.clock(), 0);
        C.same("1: order", bay.order(0, 2), 0);
        C.sameDouble("1: late", bay.meanLate(), 0.0);
        bay.platforms(0, 4);
        bay.block(1);
        C.same("1: another object has its own blocks", new SemaphoreBay().many(0), 0);
        C.same("1: another object has its own platforms", new SemaphoreBay().station(0, 0), 2);
    }

    private static void platforms() {
        SemaphoreBay bay = new SemaphoreBay();
        C.same("2: first", bay.platforms(0, 4), 2);
        C.same("2: second", bay.platforms(0, 1), 4);
        C.same("2: third", bay.platforms(0, 3), 1);
        C.same("2: now", bay.station(0, 0), 3);
        C.same("2: another station", bay.station(5, 0), 2);
        C.same("2: last station", bay.platforms(5, 1), 2);
        C.refused("2: station 6", bay, Checks.INDEX, () -> bay.platforms(6, 1));
        C.refused("2: station -1", bay, Checks.INDEX, () -> bay.platforms(-1, 1));
        C.refused("2: both wrong", bay, Checks.INDEX, () -> bay.platforms(6, 0));
        C.refused("2: none", bay, Checks.ARGUMENT, () -> bay.platforms(0, 0));
        C.refused("2: five", bay, Checks.ARGUMENT, () -> bay.platforms(0, 5));
        C.refused("2: least int", bay, Checks.ARGUMENT, () -> bay.platforms(0, Integer.MIN_VALUE));
    }

    private static void platformsLetTrainsStay() {
        SemaphoreBay bay = new SemaphoreBay();
        bay.train(0, 1, 3, 0);
        bay.train(0, 1, 3, 0);
        C.refused("2: no room with two", bay, Checks.STATE, () -> bay.train(0, 1, 3, 0));
        C.same("2: fewer", bay.platforms(3, 1), 2);
        C.same("2: trains stay", bay.station(3, 1), 2);
        C.same("2: more", bay.platforms(3, 3), 1);
        C.same("2: room again", bay.train(0, 1, 3, 0), 2);
    }

    private static void block() {
        SemaphoreBay bay = new SemaphoreBay();
        C.refused("3: length 0", bay, Checks.ARGUMENT, () -> bay.block(0));
        C.refused("3: length 10", bay, Checks.ARGUMENT, () -> bay.block(10));
        for (int number = 0; number < 16; number++) {
            C.same("3: number", bay.block(number % 9 + 1), number);
            C.same("3: length", bay.ofBlock(number, 0), number % 9 + 1);
            C.same("3: many", bay.many(0), number + 1);
        }
        C.refused("3: too many", bay, Checks.STATE, () -> bay.block(1));
        C.refused("3: too many and wrong", bay, Checks.ARGUMENT, () -> bay.block(10));
    }

    private static void route() {
        SemaphoreBay bay = new SemaphoreBay();
        C.refused("4: no block yet", bay, Checks.INDEX, () -> bay.route(0, 1, 0, true));
        bay.block(4);
        bay.block(7);
        C.refused("4: from 6", bay, Checks.INDEX, () -> bay.route(6, 1, 0, true));
        C.refused("4: from -1", bay, Checks.INDEX, () -> bay.route(-1, 1, 0, true));
        C.refused("4: to 6", bay, Checks.INDEX, () -> bay.route(1, 6, 0, true));
        C.refused("4: to -1", bay, Checks.INDEX, () -> bay.route(1, -1, 0, true));
        C.refused("4: block 2", bay, Checks.INDEX, () -> bay.route(1, 0, 2, true));
        C.refused("4: block -1", bay, Checks.INDEX, () -> bay.route(1, 0, -1, true));
        C.refused("4: from is to", bay, Checks.ARGUMENT, () -> bay.route(1, 1, 0, true));
        C.refused("4: from is to, no block", bay, Checks.INDEX, () -> bay.route(1, 1, 2, true));
        for (int number = 0; number < 16; number++) {
            C.same("4: number", bay.route(number % 5, 5, number % 2, number % 3 == 0), number);
            C.same("4: from", bay.ofRoute(number, 0), number % 5);
            C.same("4: to", bay.ofRoute(number, 1), 5);
            C.same("4: blocks", bay.ofRoute(number, 2), 1);
            C.same("4: whole", bay.ofRoute(number, 3), number % 3 == 0 ? 1 : 0);
            C.same("4: block", bay.onRoute(number, 0), number % 2);
        }
        C.refused("4: too many", bay, Checks.STATE, () -> bay.route(0, 1, 0, true));
        C.refused("4: too many, from is to", bay, Checks.ARGUMENT, () -> bay.route(0, 0, 0, true));
        C.refused("4: too many, no block", bay, Checks.INDEX, () -> bay.route(0, 1, 2, true));
    }

    private static void over() {
        SemaphoreBay bay = new SemaphoreBay();
        for (int length = 1; length <= 7; length++) {
            bay.block(length);
        }
        C.refused("5: no route yet", bay, Checks.INDEX, () -> bay.over(0, 0));
        bay.route(0, 1, 6, false);
        bay.route(0, 1, 5, false);
        C.same("5: two", bay.over(0, 2), 2);
        C.refused("5: its first block", bay, Checks.ARGUMENT, () -> bay.over(0, 6));
        C.refused("5: its last block", bay, Checks.ARGUMENT, () -> bay.over(0, 2));
        C.refused("5: no block", bay, Checks.INDEX, () -> bay.over(0, 7));
        C.refused("5: block -1", bay, Checks.INDEX, () -> bay.over(0, -1));
        C.refused("5: no route", bay, Checks.INDEX, () -> bay.over(2, 1));
        C.refused("5: route -1", bay, Checks.INDEX, () -> bay.over(-1, 1));
        C.same("5: three", bay.over(0, 0), 3);
        C.same("5: four", bay.over(0, 3), 4);
        C.same("5: five", bay.over(0, 1), 5);
        C.refused("5: six", bay, Checks.STATE, () -> bay.over(0, 4));
        C.refused("5: full, on it already", bay, Checks.ARGUMENT, () -> bay.over(0, 1));
        C.refused("5: full, no block", bay, Checks.INDEX, () -> bay.over(0, 7));
        int[] row = {6, 2, 0, 3, 1};
        for (int place = 0; place < row.length; place++) {
            C.same("5: place " + place, bay.onRoute(0, place), row[place]);
        }
        C.same("5: the other route", bay.ofRoute(1, 2), 1);
        C.same("5: lengths together", bay.ofRoute(0, 4), 7 + 3 + 1 + 4 + 2);
    }

    private static void overARouteInUse() {
        SemaphoreBay bay = Bays.shuttle(3, 1);
        bay.block(1);
        bay.route(0, 1, 0, false);
        C.same("5: not in use yet", bay.many(5), 0);
        bay.tick(2);
        C.same("5: set out", bay.ofTrain(0, 6), 0);
        C.refused("5: in use", bay, Checks.STATE, () -> bay.over(0, 1));
        C.refused("5: in use, on it already", bay, Checks.ARGUMENT, () -> bay.over(0, 0));
        C.same("5: one that is not in use", bay.over(1, 1), 2);
        bay.tick(3);
        C.same("5: came", bay.many(3), 1);
        C.same("5: in use no more", bay.over(0, 1), 2);
    }

    private static void shut() {
        SemaphoreBay bay = new SemaphoreBay();
        C.refused("6: no block yet", bay, Checks.INDEX, () -> bay.shut(0, 1));
        bay.block(1);
        bay.tick(7);
        C.same("6: till", bay.shut(0, 5), 12);
        C.same("6: again, shorter", bay.shut(0, 1), 8);
        C.same("6: longest", bay.shut(0, 100), 107);
        C.same("6: no more", bay.shut(0, 0), -1);
        C.same("6: asked", bay.ofBlock(0, 3), -1);
        C.same("6: once more", bay.shut(0, 2), 9);
        C.refused("6: 101", bay, Checks.ARGUMENT, () -> bay.shut(0, 101));
        C.refused("6: -1", bay, Checks.ARGUMENT, () -> bay.shut(0, -1));
        C.refused("6: block 1", bay, Checks.INDEX, () -> bay.shut(1, 1));
        C.refused("6: block -1", bay, Checks.INDEX, () -> bay.shut(-1, 1));
        C.refused("6: both", bay, Checks.INDEX, () -> bay.shut(1, 101));
        bay.tick(1);
        C.same("6: still", bay.ofBlock(0, 3), 9);
        bay.tick(1);
        C.same("6: over", bay.ofBlock(0, 3), -1);
    }

    private static void shutHoldsUpTrains() {
        SemaphoreBay bay = Bays.shuttle(2, 1);
        bay.block(1);
        bay.over(0, 1);
        bay.shut(0, 5);
        bay.tick(4);
        C.same("6: not set out while it is shut", bay.ofTrain(0, 4), 0);
        C.same("6: waited", bay.ofTrain(0, 9), 3);
        C.same("6: for none", bay.waitsFor(0), -1);
        bay.tick(1);
        C.same("6: set out as it is over", bay.ofTrain(0, 5), 0);
        bay.shut(0, 100);
        bay.shut(1, 4);
        C.same("6: held and shut", bay.ofBlock(0, 1), 0);
        bay.tick(2);
        C.same("6: rolls on over a shut block, and stands", bay.ofTrain(0, 11), 1);
        C.same("6: on the first", bay.ofTrain(0, 5), 0);
        C.same("6: stands for none", bay.waitsFor(0), -1);
        bay.tick(1);
        C.same("6: still there", bay.ofTrain(0, 5), 0);
        bay.tick(1);
        C.same("6: on the next", bay.ofTrain(0, 5), 1);
        C.same("6: waited in all", bay.ofTrain(0, 9), 5);
    }

    private static void order() {
        SemaphoreBay bay = new SemaphoreBay();
        C.same("7: at first", bay.order(1, 0), 0);
        C.same("7: then", bay.order(2, 9), 1);
        C.same("7: and then", bay.order(2, 9), 2);
        C.refused("7: order 3", bay, Checks.ARGUMENT, () -> bay.order(3, 0));
        C.refused("7: order -1", bay, Checks.ARGUMENT, () -> bay.order(-1, 0));
        C.refused("7: stay 10", bay, Checks.ARGUMENT, () -> bay.order(0, 10));
        C.refused("7: stay -1", bay, Checks.ARGUMENT, () -> bay.order(0, -1));
        C.same("7: refused ones changed nothing", bay.order(0, 2), 2);
    }

    /** The train of three, each ready at clock 7, that sets out first over one block. */
    private static int firstOut(int order) {
        SemaphoreBay bay = new SemaphoreBay();
        bay.block(3);
        bay.route(0, 1, 0, false);
        bay.platforms(0, 4);
        bay.platforms(1, 4);
        int[] ranks = {1, 8, 8, 2};
        int[] times = {7, 6, 5, 5};
        for (int train = 0; train < 4; train++) {
            bay.train(ranks[train], 1, 0, times[train]);
            bay.stop(train, 1, 50);
        }
        bay.order(order, 0);
        bay.shut(0, 7);
        bay.tick(7);
        C.same("7: one alone", bay.many(5), 1);
        for (int train = 0; train < 4; train++) {
            int waited = Math.max(0, 7 - Math.max(times[train], 1)) + (bay.ofTrain(train, 5) == 0 ? 0 : 1);
            C.same("7: waited " + train, bay.ofTrain(train, 9), waited);
        }
        return bay.ofBlock(0, 1);
    }

    private static void orderDecidesWhoGoesFirst() {
        C.same("7: by numbers", firstOut(0), 0);
        C.same("7: by ranks, of two the smaller number", firstOut(1), 1);
        C.same("7: by times, of two the smaller number", firstOut(2), 2);
    }

    private static void stay() {
        for (int stay = 0; stay <= 9; stay++) {
            SemaphoreBay bay = Bays.shuttle(1, 1);
            bay.order(0, stay);
            int out = Math.max(1, stay);
            if (out > 1) {
                bay.tick(out - 1);
            }
            C.same("7: not out ahead of the stay", bay.ofTrain(0, 4), 0);
            bay.tick(1);
            C.same("7: out", bay.ofTrain(0, 5), 0);
        }
    }
}

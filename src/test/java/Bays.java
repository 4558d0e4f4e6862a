/** Lines that several tests use. */
final class Bays {
    /** The stay of the lines on which trains meet. */
    static final int STAY = 1;

    private Bays() {
    }

    /** The bay, as many ticks later; a call takes sixty at most. */
    static SemaphoreBay after(SemaphoreBay bay, int ticks) {
        for (int left = ticks; left > 0; left -= 60) {
            bay.tick(Math.min(60, left));
        }
        return bay;
    }

    /** One block, a route over it from 0 to 1 that is not whole, and a train with the plan 0@0, 1@5. */
    static SemaphoreBay shuttle(int length, int pace) {
        SemaphoreBay bay = new SemaphoreBay();
        bay.block(length);
        bay.route(0, 1, 0, false);
        bay.train(0, pace, 0, 0);
        bay.stop(0, 1, 5);
        return bay;
    }

    /** A route from 0 to 1 over as many blocks as lengths, and a stay of 0. */
    static SemaphoreBay row(boolean isWhole, int... lengths) {
        SemaphoreBay bay = new SemaphoreBay();
        for (int block = 0; block < lengths.length; block++) {
            bay.block(lengths[block]);
            if (block == 0) {
                bay.route(0, 1, 0, isWhole);
            } else {
                bay.over(0, block);
            }
        }
        bay.order(0, 0);
        return bay;
    }

    /** Adds a train that may set out at once, from one station to another. */
    static int runner(SemaphoreBay bay, int pace, int from, int to) {
        int train = bay.train(0, pace, from, 0);
        bay.stop(train, to, 0);
        return train;
    }

    /**
     * Two blocks of length 2 in a row between 0 and 1, a route each way, not whole; train 0 goes from 0,
     * train 1 from 1, both ready at clock 1: they meet, and each stands before the block of the other.
     */
    static SemaphoreBay meeting() {
        SemaphoreBay bay = new SemaphoreBay();
        bay.block(2);
        bay.block(2);
        bay.route(0, 1, 0, false);
        bay.over(0, 1);
        bay.route(1, 0, 1, false);
        bay.over(1, 0);
        bay.order(0, STAY);
        bay.train(1, 1, 0, 0);
        bay.stop(0, 1, 0);
        bay.train(2, 1, 1, 0);
        bay.stop(1, 0, 0);
        return bay;
    }

    /** As meeting(), but each route is whole: the second train waits in its station for the first. */
    static SemaphoreBay wholeMeeting() {
        SemaphoreBay bay = new SemaphoreBay();
        bay.block(2);
        bay.block(2);
        bay.route(0, 1, 0, true);
        bay.over(0, 1);
        bay.route(1, 0, 1, true);
        bay.over(1, 0);
        bay.order(0, STAY);
        bay.train(1, 1, 0, 0);
        bay.stop(0, 1, 0);
        bay.train(2, 1, 1, 0);
        bay.stop(1, 0, 0);
        return bay;
    }

    /** Trains of several ranks and times between three stations, one of which has a single platform. */
    static SemaphoreBay station() {
        SemaphoreBay bay = new SemaphoreBay();
        for (int block = 0; block < 5; block++) {
            bay.block(1 + block % 3);
        }
        bay.route(0, 1, 0, true);
        bay.over(0, 1);
        bay.over(0, 2);
        bay.route(1, 0, 3, false);
        bay.over(1, 1);
        bay.route(1, 2, 4, false);
        bay.route(2, 1, 4, true);
        bay.platforms(0, 4);
        bay.platforms(1, 1);
        bay.platforms(2, 3);
        bay.order(1, STAY);
        int[] ranks = {1, 5, 9};
        int[] times = {6, 3, 3};
        for (int train = 0; train < 3; train++) {
            bay.train(ranks[train], 1 + train % 2, 0, times[train]);
            bay.stop(train, 1, times[train] + 6);
            bay.stop(train, 2 - 2 * (train % 2), times[train] + 12 + train);
        }
        bay.train(3, 1, 2, 0);
        bay.stop(3, 1, 14);
        return bay;
    }

    /** As much as there can be: 16 blocks, 16 routes of five blocks, 8 trains with plans of 8 stops. */
    static SemaphoreBay full() {
        SemaphoreBay bay = new SemaphoreBay();
        for (int block = 0; block < 16; block++) {
            bay.block(1 + block % 2);
        }
        for (int route = 0; route < 16; route++) {
            int from = route % 4;
            bay.route(from, (from + 1) % 4, route, route % 3 == 0);
            for (int more = 1; more < 5; more++) {
                bay.over(route, (route + more * 3) % 16);
            }
        }
        for (int station = 0; station < 6; station++) {
            bay.platforms(station, 4);
        }
        bay.order(2, STAY);
        for (int train = 0; train < 8; train++) {
            bay.train(train, 1, train % 4, train % 3);
            for (int stop = 1; stop < 8; stop++) {
                bay.stop(train, (train + stop) % 4, stop * 2 + train % 3);
            }
        }
        return bay;
    }
}

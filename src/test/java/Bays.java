/** Lines that several tests use. */
final class Bays {
    private Bays() {
    }

    /** One block, a route over it from 0 to 1 that is not whole, and a train with the plan 0@0, 1@5. */
    static SemaphoreBay shuttle(int length, int pace) {
        SemaphoreBay bay = new SemaphoreBay();
        bay.block(length);
        bay.route(0, 1, 0, false);
        bay.train(0, pace, 0, 0);
        bay.stop(0, 1, 5);
        return bay;
    }

    /**
     * Two blocks of length 2 in a row between 0 and 1, a route each way, not whole; train 0 goes from 0,
     * train 1 from 1, both ready at clock 1: they meet, and each stands before the block of the other.
     */
    static SemaphoreBay meeting() {
        SemaphoreBay bay = new SemaphoreBay();
        bay.block(2);
        bay.block(2);
        bay.route(0, 1, 0, false);
        bay.over(0, 1);
        bay.route(1, 0, 1, false);
        bay.over(1, 0);
        bay.order(0, 0);
        bay.train(1, 1, 0, 0);
        bay.stop(0, 1, 0);
        bay.train(2, 1, 1, 0);
        bay.stop(1, 0, 0);
        return bay;
    }

    /** As meeting(), but each route is whole: the second train waits in its station for the first. */
    static SemaphoreBay wholeMeeting() {
        SemaphoreBay bay = new SemaphoreBay();
        bay.block(2);
        bay.block(2);
        bay.route(0, 1, 0, true);
        bay.over(0, 1);
        bay.route(1, 0, 1, true);
        bay.over(1, 0);
        bay.order(0, 0);
        bay.train(1, 1, 0, 0);
        bay.stop(0, 1, 0);
        bay.train(2, 1, 1, 0);
        bay.stop(1, 0, 0);
        return bay;
    }
}

/**
 * A railway on a bay: blocks and routes, trains with their plans, and the ticks that go by.
 * The face checks the arguments and asks or changes a Line, which holds all that there is.
 */
public final class SemaphoreBay {
    private static final int NONE = -1;

    private static final int STATIONS = 6;
    private static final int MOST_PLATFORMS = 4;
    private static final int FIRST_PLATFORMS = 2;
    private static final int MOST_BLOCKS = 16;
    private static final int MOST_LENGTH = 9;
    private static final int MOST_ROUTES = 16;
    private static final int MOST_BLOCKS_OF_ROUTE = 5;
    private static final int MOST_TRAINS = 8;
    private static final int MOST_RANK = 9;
    private static final int MOST_PACE = 3;
    private static final int MOST_STOPS = 8;
    private static final int MOST_TIME = 9999;
    private static final int MOST_STAY = 9;
    private static final int FIRST_STAY = 2;
    private static final int MOST_SHUT = 100;
    private static final int MOST_HELD_BACK = 100;
    private static final int MOST_TICKS = 60;
    private static final int MOST_TICKS_AHEAD = 120;

    private static final int ORDER_BY_RANKS = 1;
    private static final int ORDER_BY_TIMES = 2;
    private static final int LAST_ORDER = 2;

    private static final int LAST_OF_MANY = 6;
    private static final int LAST_OF_STATION = 2;
    private static final int LAST_OF_BLOCK = 3;
    private static final int LAST_OF_ROUTE = 4;
    private static final int LAST_OF_TRAIN = 12;

    private static final long DIGEST_START = 58091L;
    private static final long DIGEST_FACTOR = 31L;

    private final Line line;
    /** Made once and used for every question of what would be, so that asking makes no objects. */
    private final Line trial;

    public SemaphoreBay() {
        line = new Line();
        trial = new Line();
    }

    // ---- the line

    public int platforms(int station, int platforms)
            throws IndexOutOfBoundsException, IllegalArgumentException {
        needStation(station);
        needWithin(platforms, 1, MOST_PLATFORMS);
        int before = line.platforms[station];
        line.platforms[station] = platforms;
        return before;
    }

    public int block(int length) throws IllegalArgumentException, IllegalStateException {
        needWithin(length, 1, MOST_LENGTH);
        if (line.blockCount >= MOST_BLOCKS) {
            throw new IllegalStateException("no more blocks");
        }
        int number = line.blockCount;
        line.blocks[number].length = length;
        line.blockCount = number + 1;
        return number;
    }

    public int route(int from, int to, int block, boolean isWhole)
            throws IndexOutOfBoundsException, IllegalArgumentException, IllegalStateException {
        needStation(from);
        needStation(to);
        needBlock(block);
        if (from == to) {
            throw new IllegalArgumentException("a route goes to another station");
        }
        if (line.routeCount >= MOST_ROUTES) {
            throw new IllegalStateException("no more routes");
        }
        int number = line.routeCount;
        line.routes[number].lay(from, to, isWhole);
        line.routes[number].addBlock(block);
        line.routeCount = number + 1;
        return number;
    }

    public int over(int route, int block)
            throws IndexOutOfBoundsException, IllegalArgumentException, IllegalStateException {
        needRoute(route);
        needBlock(block);
        Route longer = line.routes[route];
        if (longer.hasBlock(block)) {
            throw new IllegalArgumentException("the block is on the route already");
        }
        if (longer.count >= MOST_BLOCKS_OF_ROUTE || line.isInUse(route)) {
            throw new IllegalStateException("the route can't go on");
        }
        longer.addBlock(block);
        return longer.count;
    }

    public int shut(int block, int ticks) throws IndexOutOfBoundsException, IllegalArgumentException {
        needBlock(block);
        needWithin(ticks, 0, MOST_SHUT);
        line.shutFor(block, ticks);
        return line.tillOrNone(line.blocks[block].shutTill);
    }

    public int order(int order, int stay) throws IllegalArgumentException {
        needWithin(order, 0, LAST_ORDER);
        needWithin(stay, 0, MOST_STAY);
        int before = line.order;
        line.order = order;
        line.stay = stay;
        return before;
    }

    // ---- trains

    public int train(int rank, int pace, int station, int time)
            throws IndexOutOfBoundsException, IllegalArgumentException, IllegalStateException {
        needStation(station);
        needWithin(rank, 0, MOST_RANK);
        needWithin(pace, 1, MOST_PACE);
        needWithin(time, 0, MOST_TIME);
        if (line.trainCount >= MOST_TRAINS || !line.hasRoom(station)) {
            throw new IllegalStateException("no more trains, or no room");
        }
        int number = line.trainCount;
        Train added = line.trains[number];
        added.rank = rank;
        added.pace = pace;
        added.station = station;
        added.cameAt = line.clock;
        added.addStop(station, time);
        line.trainCount = number + 1;
        return number;
    }

    public int stop(int train, int station, int time)
            throws IndexOutOfBoundsException, IllegalArgumentException, IllegalStateException {
        needTrain(train);
        needStation(station);
        Train planned = line.trains[train];
        int last = planned.stops - 1;
        needWithin(time, 0, MOST_TIME);
        if (time < planned.timeOf(last) || station == planned.stationOf(last)) {
            throw new IllegalArgumentException("not behind the last stop");
        }
        if (planned.stops >= MOST_STOPS || planned.isDone()) {
            throw new IllegalStateException("the plan can't go on");
        }
        planned.addStop(station, time);
        return planned.stops;
    }

    public int holdBack(int train, int ticks) throws IndexOutOfBoundsException, IllegalArgumentException {
        needTrain(train);
        needWithin(ticks, 0, MOST_HELD_BACK);
        line.trains[train].heldBackTill = line.clock + ticks;
        return line.tillOrNone(line.trains[train].heldBackTill);
    }

    public int rank(int train, int rank) throws IndexOutOfBoundsException, IllegalArgumentException {
        needTrain(train);
        needWithin(rank, 0, MOST_RANK);
        int before = line.trains[train].rank;
        line.trains[train].rank = rank;
        return before;
    }

    public int tick(int ticks) throws IllegalArgumentException {
        needWithin(ticks, 1, MOST_TICKS);
        line.passTicks(ticks);
        return line.trainCount - line.countDone();
    }

    public int clock() {
        return line.clock;
    }

    // ---- asking

    public int many(int what) throws IllegalArgumentException {
        needWithin(what, 0, LAST_OF_MANY);
        switch (what) {
            case 0:
                return line.blockCount;
            case 1:
                return line.routeCount;
            case 2:
                return line.trainCount;
            case 3:
                return line.countDone();
            case 4:
                return line.countAtStations();
            case 5:
                return line.countOnBlocks();
            default:
                return line.countStuck();
        }
    }

    public int station(int station, int what) throws IndexOutOfBoundsException, IllegalArgumentException {
        needStation(station);
        needWithin(what, 0, LAST_OF_STATION);
        switch (what) {
            case 0:
                return line.platforms[station];
            case 1:
                return line.countAt(station);
            default:
                return line.countOnTheWayTo(station);
        }
    }

    public int ofBlock(int block, int what) throws IndexOutOfBoundsException, IllegalArgumentException {
        needBlock(block);
        needWithin(what, 0, LAST_OF_BLOCK);
        Block asked = line.blocks[block];
        switch (what) {
            case 0:
                return asked.length;
            case 1:
                return asked.heldBy;
            case 2:
                return asked.lockedFor;
            default:
                return line.tillOrNone(asked.shutTill);
        }
    }

    public int onRoute(int route, int place) throws IndexOutOfBoundsException {
        needRoute(route);
        needNumber(place, line.routes[route].count);
        return line.routes[route].blockAt(place);
    }

    public int ofRoute(int route, int what) throws IndexOutOfBoundsException, IllegalArgumentException {
        needRoute(route);
        needWithin(what, 0, LAST_OF_ROUTE);
        Route asked = line.routes[route];
        switch (what) {
            case 0:
                return asked.from;
            case 1:
                return asked.to;
            case 2:
                return asked.count;
            case 3:
                return oneIf(asked.isWhole);
            default:
                return line.lengthOf(asked);
        }
    }

    public int ofTrain(int train, int what) throws IndexOutOfBoundsException, IllegalArgumentException {
        needTrain(train);
        needWithin(what, 0, LAST_OF_TRAIN);
        Train asked = line.trains[train];
        switch (what) {
            case 0:
                return asked.rank;
            case 1:
                return asked.pace;
            case 2:
                return asked.stops;
            case 3:
                return asked.lastStop;
            case 4:
                return asked.station;
            case 5:
                return line.blockUnder(asked);
            case 6:
                return asked.route;
            case 7:
                return asked.left;
            case 8:
                return asked.late;
            case 9:
                return asked.waited;
            case 10:
                return oneIf(line.isReady(asked));
            case 11:
                return oneIf(asked.isAtEndOfBlock());
            default:
                return line.tillOrNone(asked.heldBackTill);
        }
    }

    public int plan(int train, int stop, boolean isTime) throws IndexOutOfBoundsException {
        needTrain(train);
        Train asked = line.trains[train];
        needNumber(stop, asked.stops);
        return isTime ? asked.timeOf(stop) : asked.stationOf(stop);
    }

    public int waitedFor(int train, int other) throws IndexOutOfBoundsException {
        needTrain(train);
        needTrain(other);
        return line.trains[train].waitedFor[other];
    }

    public int waitsFor(int train) throws IndexOutOfBoundsException {
        needTrain(train);
        return line.trains[train].waitsFor;
    }

    public boolean isStuck(int train) throws IndexOutOfBoundsException {
        needTrain(train);
        return line.waitsForItself(train);
    }

    public boolean isOpen(int train, int route) throws IndexOutOfBoundsException {
        needTrain(train);
        needRoute(route);
        return line.isOpenFor(line.routes[route], train);
    }

    public double meanLate() {
        int trains = line.trainCount;
        return trains == 0 ? 0.0 : (double) line.sumLate() / (double) trains;
    }

    // ---- what would be (nothing is changed)

    public int doneIn(int train, int ticks) throws IndexOutOfBoundsException, IllegalArgumentException {
        needTrain(train);
        needWithin(ticks, 1, MOST_TICKS_AHEAD);
        trial.takeFrom(line);
        int gone = 0;
        while (gone < ticks && !trial.trains[train].isDone()) {
            trial.passTicks(1);
            gone++;
        }
        return trial.trains[train].isDone() ? gone : NONE;
    }

    public int waitedWith(int order, int ticks) throws IllegalArgumentException {
        needWithin(order, 0, LAST_ORDER);
        needWithin(ticks, 1, MOST_TICKS_AHEAD);
        trial.takeFrom(line);
        trial.order = order;
        trial.passTicks(ticks);
        return trial.sumWaited() - line.sumWaited();
    }

    public int lostBy(int block, int ticks) throws IndexOutOfBoundsException, IllegalArgumentException {
        needBlock(block);
        needWithin(ticks, 1, MOST_TICKS);
        trial.takeFrom(line);
        trial.passTicks(ticks);
        int doneAsItIs = trial.countDone();
        trial.takeFrom(line);
        trial.shutFor(block, ticks);
        trial.passTicks(ticks);
        return doneAsItIs - trial.countDone();
    }

    public int stuckIn(int ticks) throws IllegalArgumentException {
        needWithin(ticks, 1, MOST_TICKS_AHEAD);
        trial.takeFrom(line);
        int gone = 0;
        while (gone < ticks && trial.countStuck() == 0) {
            trial.passTicks(1);
            gone++;
        }
        return trial.countStuck() > 0 ? gone : NONE;
    }

    public long digest() {
        long d = mixed(DIGEST_START, clock());
        for (int what = 0; what <= LAST_OF_MANY; what++) {
            d = mixed(d, many(what));
        }
        for (int station = 0; station < STATIONS; station++) {
            for (int what = 0; what <= LAST_OF_STATION; what++) {
                d = mixed(d, station(station, what));
            }
        }
        for (int block = 0; block < line.blockCount; block++) {
            for (int what = 0; what <= LAST_OF_BLOCK; what++) {
                d = mixed(d, ofBlock(block, what));
            }
        }
        for (int train = 0; train < line.trainCount; train++) {
            d = mixedWithTrain(d, train);
        }
        return d;
    }

    private long mixedWithTrain(long start, int train) {
        long d = start;
        for (int what = 0; what <= LAST_OF_TRAIN; what++) {
            d = mixed(d, ofTrain(train, what));
        }
        d = mixed(d, waitsFor(train));
        d = mixed(d, oneIf(isStuck(train)));
        for (int other = 0; other < line.trainCount; other++) {
            d = mixed(d, waitedFor(train, other));
        }
        return d;
    }

    private static long mixed(long d, int v) {
        return d * DIGEST_FACTOR + v;
    }

    private static int oneIf(boolean yes) {
        return yes ? 1 : 0;
    }

    // ---- what the arguments must be

    private static void needStation(int station) {
        needNumber(station, STATIONS);
    }

    private void needBlock(int block) {
        needNumber(block, line.blockCount);
    }

    private void needRoute(int route) {
        needNumber(route, line.routeCount);
    }

    private void needTrain(int train) {
        needNumber(train, line.trainCount);
    }

    private static void needNumber(int number, int count) {
        if (number < 0 || number >= count) {
            throw new IndexOutOfBoundsException("there is no such number");
        }
    }

    private static void needWithin(int value, int least, int most) {
        if (value < least || value > most) {
            throw new IllegalArgumentException("the value is out of its bounds");
        }
    }

    private static final class Block {
        int length;
        int heldBy = NONE;
        int lockedFor = NONE;
        int shutTill;

        void takeFrom(Block other) {
            length = other.length;
            heldBy = other.heldBy;
            lockedFor = other.lockedFor;
            shutTill = other.shutTill;
        }
    }

    private static final class Route {
        int from;
        int to;
        boolean isWhole;
        int count;
        final int[] blocks = new int[MOST_BLOCKS_OF_ROUTE];

        void lay(int start, int end, boolean whole) {
            from = start;
            to = end;
            isWhole = whole;
            count = 0;
        }

        void takeFrom(Route other) {
            lay(other.from, other.to, other.isWhole);
            for (int place = 0; place < other.count; place++) {
                addBlock(other.blockAt(place));
            }
        }

        void addBlock(int block) {
            if (count >= 0 && count < blocks.length) {
                blocks[count] = block;
                count++;
            }
        }

        int blockAt(int place) {
            return place >= 0 && place < blocks.length ? blocks[place] : NONE;
        }

        boolean hasBlock(int block) {
            for (int place = 0; place < count; place++) {
                if (blockAt(place) == block) {
                    return true;
                }
            }
            return false;
        }

        boolean joins(int start, int end) {
            return from == start && to == end;
        }

        /** How many of its blocks must be clear for a train that would set out. */
        int countToBeClear() {
            return isWhole ? count : 1;
        }
    }

    private static final class Train {
        int rank;
        int pace;
        int stops;
        final int[] stations = new int[MOST_STOPS];
        final int[] times = new int[MOST_STOPS];
        /** The stop to which it came last. */
        int lastStop;
        /** At a station it has no route, on a block no station, and done neither. */
        int station = NONE;
        int cameAt;
        int route = NONE;
        int place;
        int left;
        int heldBackTill;
        int late;
        int waited;
        int waitsFor = NONE;
        final int[] waitedFor = new int[MOST_TRAINS];

        void takeFrom(Train other) {
            rank = other.rank;
            pace = other.pace;
            stops = other.stops;
            System.arraycopy(other.stations, 0, stations, 0, MOST_STOPS);
            System.arraycopy(other.times, 0, times, 0, MOST_STOPS);
            lastStop = other.lastStop;
            station = other.station;
            cameAt = other.cameAt;
            route = other.route;
            place = other.place;
            left = other.left;
            heldBackTill = other.heldBackTill;
            late = other.late;
            waited = other.waited;
            waitsFor = other.waitsFor;
            System.arraycopy(other.waitedFor, 0, waitedFor, 0, MOST_TRAINS);
        }

        void addStop(int where, int time) {
            if (stops >= 0 && stops < MOST_STOPS) {
                stations[stops] = where;
                times[stops] = time;
                stops++;
            }
        }

        int stationOf(int stop) {
            return stop >= 0 && stop < stations.length ? stations[stop] : NONE;
        }

        int timeOf(int stop) {
            return stop >= 0 && stop < times.length ? times[stop] : NONE;
        }

        boolean isOnBlock() {
            return route != NONE;
        }

        boolean isAtEndOfBlock() {
            return route != NONE && left == 0;
        }

        boolean isAtStation() {
            return station != NONE;
        }

        boolean isDone() {
            return station == NONE && route == NONE;
        }

        boolean isAtLastStop() {
            return lastStop >= stops - 1;
        }

        void beLate(int clock) {
            late = Math.max(0, clock - timeOf(lastStop));
        }

        void waitOneTick(int other) {
            waited++;
            waitsFor = other;
            if (other >= 0 && other < waitedFor.length) {
                waitedFor[other]++;
            }
        }
    }

    /** All that there is at one clock, and how a tick changes it. */
    private static final class Line {
        final int[] platforms = new int[STATIONS];
        final Block[] blocks = new Block[MOST_BLOCKS];
        int blockCount;
        final Route[] routes = new Route[MOST_ROUTES];
        int routeCount;
        final Train[] trains = new Train[MOST_TRAINS];
        int trainCount;
        int order;
        int stay = FIRST_STAY;
        int clock;

        Line() {
            for (int station = 0; station < STATIONS; station++) {
                platforms[station] = FIRST_PLATFORMS;
            }
            for (int block = 0; block < MOST_BLOCKS; block++) {
                blocks[block] = new Block();
            }
            for (int route = 0; route < MOST_ROUTES; route++) {
                routes[route] = new Route();
            }
            for (int train = 0; train < MOST_TRAINS; train++) {
                trains[train] = new Train();
            }
        }

        void takeFrom(Line other) {
            System.arraycopy(other.platforms, 0, platforms, 0, STATIONS);
            blockCount = other.blockCount;
            for (int block = 0; block < blockCount; block++) {
                blocks[block].takeFrom(other.blocks[block]);
            }
            routeCount = other.routeCount;
            for (int route = 0; route < routeCount; route++) {
                routes[route].takeFrom(other.routes[route]);
            }
            trainCount = other.trainCount;
            for (int train = 0; train < trainCount; train++) {
                trains[train].takeFrom(other.trains[train]);
            }
            order = other.order;
            stay = other.stay;
            clock = other.clock;
        }

        // -- a tick

        void passTicks(int ticks) {
            for (int gone = 0; gone < ticks; gone++) {
                clock++;
                forgetWhoWaits();
                for (int train = 0; train < trainCount; train++) {
                    if (trains[train].isOnBlock()) {
                        roll(train);
                    }
                }
                giveTurns();
            }
        }

        private void forgetWhoWaits() {
            for (int train = 0; train < trainCount; train++) {
                trains[train].waitsFor = NONE;
            }
        }

        private void roll(int number) {
            Train train = trains[number];
            if (train.left > 0) {
                train.left--;
            }
            if (train.left > 0 || train.route < 0 || train.route >= routeCount) {
                return;
            }
            Route route = routes[train.route];
            int next = train.place + 1;
            if (next >= route.count) {
                comeToStation(train);
            } else if (isClearFor(route.blockAt(next), number)) {
                leaveBlock(train);
                enter(number, train.route, next);
            } else {
                train.waitOneTick(trainInTheWay(route.blockAt(next), number));
            }
        }

        private void comeToStation(Train train) {
            leaveBlock(train);
            train.route = NONE;
            train.lastStop++;
            train.cameAt = clock;
            if (train.isAtLastStop()) {
                train.beLate(clock);
            } else {
                train.station = train.stationOf(train.lastStop);
            }
        }

        private void leaveBlock(Train train) {
            int block = blockUnder(train);
            if (block >= 0 && block < blockCount) {
                blocks[block].heldBy = NONE;
            }
        }

        private void enter(int number, int route, int place) {
            int block = routes[route].blockAt(place);
            if (block < 0 || block >= blockCount) {
                return;
            }
            Train train = trains[number];
            train.station = NONE;
            train.route = route;
            train.place = place;
            train.left = blocks[block].length * train.pace;
            blocks[block].heldBy = number;
            blocks[block].lockedFor = NONE;
        }

        // -- setting out

        /** Lets each ready train set out or wait; none becomes ready by the turn of another one. */
        private void giveTurns() {
            int turned = 0;
            for (int turns = 0; turns < trainCount; turns++) {
                int number = firstReady(turned);
                if (number == NONE) {
                    return;
                }
                turned |= 1 << number;
                takeTurn(number);
            }
        }

        /** The ready train that comes first by the order, of those not yet turned; NONE without one. */
        private int firstReady(int turned) {
            int first = NONE;
            for (int number = 0; number < trainCount; number++) {
                boolean isDue = (turned >> number & 1) == 0 && isReady(trains[number]);
                if (isDue && (first == NONE || goesAhead(trains[number], trains[first]))) {
                    first = number;
                }
            }
            return first;
        }

        private boolean goesAhead(Train train, Train other) {
            if (order == ORDER_BY_RANKS) {
                return train.rank > other.rank;
            }
            return order == ORDER_BY_TIMES
                    && train.timeOf(train.lastStop) < other.timeOf(other.lastStop);
        }

        private void takeTurn(int number) {
            int first = NONE;
            for (int route = 0; route < routeCount; route++) {
                if (leadsOn(routes[route], trains[number])) {
                    if (isOpenFor(routes[route], number)) {
                        setOut(number, route);
                        return;
                    }
                    first = first == NONE ? route : first;
                }
            }
            trains[number].waitOneTick(first == NONE ? NONE : blameOn(routes[first], number));
        }

        private boolean leadsOn(Route route, Train train) {
            return route.joins(train.station, train.stationOf(train.lastStop + 1));
        }

        private void setOut(int number, int route) {
            trains[number].beLate(clock);
            enter(number, route, 0);
            if (routes[route].isWhole) {
                lockRest(number, routes[route]);
            }
        }

        private void lockRest(int number, Route route) {
            for (int place = 1; place < route.count; place++) {
                int block = route.blockAt(place);
                if (block >= 0 && block < blockCount) {
                    blocks[block].lockedFor = number;
                }
            }
        }

        private int blameOn(Route route, int number) {
            return trainInTheWay(firstNotClear(route, number), number);
        }

        /** Of the blocks that must be clear to set out by the route, the first that is not; or NONE. */
        private int firstNotClear(Route route, int number) {
            for (int place = 0; place < route.countToBeClear(); place++) {
                if (!isClearFor(route.blockAt(place), number)) {
                    return route.blockAt(place);
                }
            }
            return NONE;
        }

        // -- what holds now

        boolean isReady(Train train) {
            return train.isAtStation()
                    && !train.isAtLastStop()
                    && clock >= train.timeOf(train.lastStop)
                    && clock - train.cameAt >= stay
                    && clock >= train.heldBackTill;
        }

        boolean isOpenFor(Route route, int number) {
            return hasRoom(route.to) && firstNotClear(route, number) == NONE;
        }

        private boolean isClearFor(int block, int number) {
            if (block < 0 || block >= blockCount) {
                return false;
            }
            Block asked = blocks[block];
            boolean isFree = asked.lockedFor == NONE || asked.lockedFor == number;
            return clock >= asked.shutTill && asked.heldBy == NONE && isFree;
        }

        /** The train because of which the block is not clear for this one; NONE if it is only shut. */
        private int trainInTheWay(int block, int number) {
            if (block < 0 || block >= blockCount) {
                return NONE;
            }
            Block asked = blocks[block];
            if (asked.heldBy != NONE) {
                return asked.heldBy;
            }
            return asked.lockedFor == number ? NONE : asked.lockedFor;
        }

        boolean hasRoom(int station) {
            return station >= 0 && station < STATIONS
                    && countAt(station) + countOnTheWayTo(station) < platforms[station];
        }

        boolean isInUse(int route) {
            for (int train = 0; train < trainCount; train++) {
                if (trains[train].route == route) {
                    return true;
                }
            }
            return false;
        }

        /** Whether the trains of the latest tick's waiting lead back to this one: then it is stuck. */
        boolean waitsForItself(int number) {
            int other = number;
            for (int steps = 0; steps < trainCount; steps++) {
                if (other < 0 || other >= trainCount) {
                    return false;
                }
                other = trains[other].waitsFor;
                if (other == number) {
                    return true;
                }
            }
            return false;
        }

        /** A clock till which something lasts, or NONE if that is over. */
        int tillOrNone(int till) {
            return clock < till ? till : NONE;
        }

        void shutFor(int block, int ticks) {
            if (block >= 0 && block < blockCount) {
                blocks[block].shutTill = clock + ticks;
            }
        }

        int blockUnder(Train train) {
            boolean isOnOne = train.route >= 0 && train.route < routeCount;
            return isOnOne ? routes[train.route].blockAt(train.place) : NONE;
        }

        int lengthOf(Route route) {
            int length = 0;
            for (int place = 0; place < route.count; place++) {
                int block = route.blockAt(place);
                if (block >= 0 && block < blockCount) {
                    length += blocks[block].length;
                }
            }
            return length;
        }

        // -- counts and sums

        int countAt(int station) {
            int count = 0;
            for (int train = 0; train < trainCount; train++) {
                if (trains[train].station == station) {
                    count++;
                }
            }
            return count;
        }

        int countOnTheWayTo(int station) {
            int count = 0;
            for (int train = 0; train < trainCount; train++) {
                int route = trains[train].route;
                if (route >= 0 && route < routeCount && routes[route].to == station) {
                    count++;
                }
            }
            return count;
        }

        int countDone() {
            int count = 0;
            for (int train = 0; train < trainCount; train++) {
                if (trains[train].isDone()) {
                    count++;
                }
            }
            return count;
        }

        int countAtStations() {
            int count = 0;
            for (int train = 0; train < trainCount; train++) {
                if (trains[train].isAtStation()) {
                    count++;
                }
            }
            return count;
        }

        int countOnBlocks() {
            int count = 0;
            for (int train = 0; train < trainCount; train++) {
                if (trains[train].isOnBlock()) {
                    count++;
                }
            }
            return count;
        }

        int countStuck() {
            int count = 0;
            for (int train = 0; train < trainCount; train++) {
                if (waitsForItself(train)) {
                    count++;
                }
            }
            return count;
        }

        int sumWaited() {
            int sum = 0;
            for (int train = 0; train < trainCount; train++) {
                sum += trains[train].waited;
            }
            return sum;
        }

        int sumLate() {
            int sum = 0;
            for (int train = 0; train < trainCount; train++) {
                sum += trains[train].late;
            }
            return sum;
        }
    }
}

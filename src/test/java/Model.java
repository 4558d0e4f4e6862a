import java.util.ArrayList;
import java.util.Comparator;
import java.util.HashMap;
import java.util.List;
import java.util.Map;
import java.util.function.Consumer;

/**
 * A second reading of the document, in another form than SemaphoreBay's: objects that know one another,
 * and what would be by doing all calls once more on a new object. Its calls have the names of the face.
 */
public final class Model {
    private static final class Block {
        int number;
        int length;
        int shutTill;
        Train holder;
        Train lockOwner;
    }

    private static final class Route {
        int number;
        int from;
        int to;
        boolean whole;
        final List<Block> row = new ArrayList<>();
    }

    private static final class Stop {
        int station;
        int time;
    }

    private enum Where { AT, ON, DONE }

    private static final class Train {
        int number;
        int rank;
        int pace;
        final List<Stop> plan = new ArrayList<>();
        Stop stop;
        Where where = Where.AT;
        int cameAt;
        Route route;
        Block block;
        int left;
        int heldTill;
        int late;
        int waited;
        Train blamed;
        final Map<Train, Integer> waitedFor = new HashMap<>();

        Stop next() {
            int index = plan.indexOf(stop) + 1;
            return index < plan.size() ? plan.get(index) : null;
        }
    }

    private final int[] platforms = {2, 2, 2, 2, 2, 2};
    private final List<Block> blocks = new ArrayList<>();
    private final List<Route> routes = new ArrayList<>();
    private final List<Train> trains = new ArrayList<>();
    private int clock;
    private int order;
    private int stay = 2;
    private final List<Consumer<Model>> done = new ArrayList<>();

    private Model again() {
        Model other = new Model();
        for (Consumer<Model> call : done) {
            call.accept(other);
        }
        return other;
    }

    private static void index(boolean isThere) {
        if (!isThere) {
            throw new IndexOutOfBoundsException();
        }
    }

    private static void argument(boolean isRight) {
        if (!isRight) {
            throw new IllegalArgumentException();
        }
    }

    private static void state(boolean isRight) {
        if (!isRight) {
            throw new IllegalStateException();
        }
    }

    private static boolean in(int value, int least, int most) {
        return least <= value && value <= most;
    }

    private static boolean isOf(int number, List<?> list) {
        return in(number, 0, list.size() - 1);
    }

    public int platforms(int station, int count) {
        index(in(station, 0, 5));
        argument(in(count, 1, 4));
        done.add(m -> m.platforms(station, count));
        int before = platforms[station];
        platforms[station] = count;
        return before;
    }

    public int block(int length) {
        argument(in(length, 1, 9));
        state(blocks.size() < 16);
        done.add(m -> m.block(length));
        Block block = new Block();
        block.number = blocks.size();
        block.length = length;
        blocks.add(block);
        return block.number;
    }

    public int route(int from, int to, int block, boolean isWhole) {
        index(in(from, 0, 5) && in(to, 0, 5) && isOf(block, blocks));
        argument(from != to);
        state(routes.size() < 16);
        done.add(m -> m.route(from, to, block, isWhole));
        Route route = new Route();
        route.number = routes.size();
        route.from = from;
        route.to = to;
        route.whole = isWhole;
        route.row.add(blocks.get(block));
        routes.add(route);
        return route.number;
    }

    public int over(int route, int block) {
        index(isOf(route, routes) && isOf(block, blocks));
        Route longer = routes.get(route);
        argument(!longer.row.contains(blocks.get(block)));
        state(longer.row.size() < 5 && trains.stream().noneMatch(t -> t.route == longer));
        done.add(m -> m.over(route, block));
        longer.row.add(blocks.get(block));
        return longer.row.size();
    }

    public int shut(int block, int ticks) {
        index(isOf(block, blocks));
        argument(in(ticks, 0, 100));
        done.add(m -> m.shut(block, ticks));
        blocks.get(block).shutTill = ticks == 0 ? 0 : clock + ticks;
        return ticks == 0 ? -1 : clock + ticks;
    }

    public int order(int newOrder, int newStay) {
        argument(in(newOrder, 0, 2) && in(newStay, 0, 9));
        done.add(m -> m.order(newOrder, newStay));
        int before = order;
        order = newOrder;
        stay = newStay;
        return before;
    }

    public int train(int rank, int pace, int station, int time) {
        index(in(station, 0, 5));
        argument(in(rank, 0, 9) && in(pace, 1, 3) && in(time, 0, 9999));
        state(trains.size() < 8 && hasRoom(station));
        done.add(m -> m.train(rank, pace, station, time));
        Train train = new Train();
        train.number = trains.size();
        train.rank = rank;
        train.pace = pace;
        train.cameAt = clock;
        Stop stop = new Stop();
        stop.station = station;
        stop.time = time;
        train.plan.add(stop);
        train.stop = stop;
        trains.add(train);
        return train.number;
    }

    public int stop(int train, int station, int time) {
        index(isOf(train, trains) && in(station, 0, 5));
        List<Stop> plan = trains.get(train).plan;
        Stop last = plan.get(plan.size() - 1);
        argument(in(time, 0, 9999) && time >= last.time && station != last.station);
        state(plan.size() < 8 && trains.get(train).where != Where.DONE);
        done.add(m -> m.stop(train, station, time));
        Stop stop = new Stop();
        stop.station = station;
        stop.time = time;
        plan.add(stop);
        return plan.size();
    }

    public int holdBack(int train, int ticks) {
        index(isOf(train, trains));
        argument(in(ticks, 0, 100));
        done.add(m -> m.holdBack(train, ticks));
        trains.get(train).heldTill = ticks == 0 ? 0 : clock + ticks;
        return ticks == 0 ? -1 : clock + ticks;
    }

    public int rank(int train, int rank) {
        index(isOf(train, trains));
        argument(in(rank, 0, 9));
        done.add(m -> m.rank(train, rank));
        int before = trains.get(train).rank;
        trains.get(train).rank = rank;
        return before;
    }

    public int tick(int ticks) {
        argument(in(ticks, 1, 60));
        done.add(m -> m.pass(ticks));
        pass(ticks);
        return trains.size() - many(3);
    }

    public int clock() {
        return clock;
    }

    private void pass(int ticks) {
        for (int i = 0; i < ticks; i++) {
            clock += 1;
            for (Train train : trains) {
                train.blamed = null;
            }
            for (Train train : trains) {
                if (train.where == Where.ON) {
                    goOn(train);
                }
            }
            List<Train> ready = new ArrayList<>(trains.stream().filter(this::isReady).toList());
            // The sort is stable: of several the smallest number comes first.
            if (order == 1) {
                ready.sort(Comparator.comparing(t -> -t.rank));
            } else if (order == 2) {
                ready.sort(Comparator.comparing(t -> t.stop.time));
            }
            for (Train train : ready) {
                setOutOrWait(train);
            }
        }
    }

    private void goOn(Train train) {
        train.left = Math.max(0, train.left - 1);
        if (train.left > 0) {
            return;
        }
        List<Block> row = train.route.row;
        int next = row.indexOf(train.block) + 1;
        if (next == row.size()) {
            train.block.holder = null;
            train.block = null;
            train.route = null;
            train.stop = train.next();
            train.cameAt = clock;
            train.where = train.next() == null ? Where.DONE : Where.AT;
            if (train.where == Where.DONE) {
                train.late = Math.max(0, clock - train.stop.time);
            }
        } else if (isClear(row.get(next), train)) {
            train.block.holder = null;
            takeBlock(train, row.get(next));
        } else {
            waits(train, List.of(row.get(next)));
        }
    }

    private void takeBlock(Train train, Block block) {
        train.where = Where.ON;
        train.block = block;
        train.left = block.length * train.pace;
        block.holder = train;
        if (block.lockOwner == train) {
            block.lockOwner = null;
        }
    }

    private void setOutOrWait(Train train) {
        List<Route> could = routes.stream()
                .filter(r -> r.from == train.stop.station && r.to == train.next().station).toList();
        for (Route route : could) {
            if (isOpen(route, train)) {
                train.late = clock - train.stop.time;
                train.route = route;
                takeBlock(train, route.row.get(0));
                if (route.whole) {
                    route.row.subList(1, route.row.size()).forEach(b -> b.lockOwner = train);
                }
                return;
            }
        }
        waits(train, could.isEmpty() ? List.of() : needed(could.get(0)));
    }

    private void waits(Train train, List<Block> mustBeClear) {
        train.waited += 1;
        for (Block block : mustBeClear) {
            if (!isClear(block, train)) {
                if (block.holder != null) {
                    train.blamed = block.holder;
                } else if (block.lockOwner != train) {
                    train.blamed = block.lockOwner;
                }
                break;
            }
        }
        if (train.blamed != null) {
            train.waitedFor.merge(train.blamed, 1, Integer::sum);
        }
    }

    private static List<Block> needed(Route route) {
        return route.whole ? route.row : route.row.subList(0, 1);
    }

    private boolean isClear(Block block, Train train) {
        boolean isShut = clock < block.shutTill;
        return !isShut && block.holder == null && (block.lockOwner == null || block.lockOwner == train);
    }

    private boolean isOpen(Route route, Train train) {
        return hasRoom(route.to) && needed(route).stream().allMatch(b -> isClear(b, train));
    }

    private boolean hasRoom(int station) {
        long there = trains.stream().filter(t -> t.where == Where.AT && t.stop.station == station).count();
        long coming = trains.stream().filter(t -> t.where == Where.ON && t.route.to == station).count();
        return there + coming < platforms[station];
    }

    private boolean isReady(Train train) {
        return train.where == Where.AT && train.next() != null && clock >= train.stop.time
                && train.cameAt <= clock - stay && !(clock < train.heldTill);
    }

    private boolean isStuck(Train train) {
        List<Train> seen = new ArrayList<>();
        for (Train other = train.blamed; other != null && !seen.contains(other); other = other.blamed) {
            seen.add(other);
        }
        return seen.contains(train);
    }

    public int many(int what) {
        argument(in(what, 0, 6));
        return switch (what) {
            case 0 -> blocks.size();
            case 1 -> routes.size();
            case 2 -> trains.size();
            case 3 -> (int) trains.stream().filter(t -> t.where == Where.DONE).count();
            case 4 -> (int) trains.stream().filter(t -> t.where == Where.AT).count();
            case 5 -> (int) trains.stream().filter(t -> t.where == Where.ON).count();
            default -> (int) trains.stream().filter(this::isStuck).count();
        };
    }

    public int station(int station, int what) {
        index(in(station, 0, 5));
        argument(in(what, 0, 2));
        return switch (what) {
            case 0 -> platforms[station];
            case 1 -> (int) trains.stream().filter(t -> t.where == Where.AT && t.stop.station == station).count();
            default -> (int) trains.stream().filter(t -> t.where == Where.ON && t.route.to == station).count();
        };
    }

    private static int numberOf(Train train) {
        return train == null ? -1 : train.number;
    }

    private int till(int till) {
        return till > clock ? till : -1;
    }

    public int ofBlock(int block, int what) {
        index(isOf(block, blocks));
        argument(in(what, 0, 3));
        Block b = blocks.get(block);
        return switch (what) {
            case 0 -> b.length;
            case 1 -> numberOf(b.holder);
            case 2 -> numberOf(b.lockOwner);
            default -> till(b.shutTill);
        };
    }

    public int onRoute(int route, int place) {
        index(isOf(route, routes) && isOf(place, routes.get(route).row));
        return routes.get(route).row.get(place).number;
    }

    public int ofRoute(int route, int what) {
        index(isOf(route, routes));
        argument(in(what, 0, 4));
        Route r = routes.get(route);
        return switch (what) {
            case 0 -> r.from;
            case 1 -> r.to;
            case 2 -> r.row.size();
            case 3 -> r.whole ? 1 : 0;
            default -> r.row.stream().mapToInt(b -> b.length).sum();
        };
    }

    public int ofTrain(int train, int what) {
        index(isOf(train, trains));
        argument(in(what, 0, 12));
        Train t = trains.get(train);
        return switch (what) {
            case 0 -> t.rank;
            case 1 -> t.pace;
            case 2 -> t.plan.size();
            case 3 -> t.plan.indexOf(t.stop);
            case 4 -> t.where == Where.AT ? t.stop.station : -1;
            case 5 -> t.where == Where.ON ? t.block.number : -1;
            case 6 -> t.where == Where.ON ? t.route.number : -1;
            case 7 -> t.where == Where.ON ? t.left : 0;
            case 8 -> t.late;
            case 9 -> t.waited;
            case 10 -> isReady(t) ? 1 : 0;
            case 11 -> t.where == Where.ON && t.left == 0 ? 1 : 0;
            default -> till(t.heldTill);
        };
    }

    public int plan(int train, int stop, boolean isTime) {
        index(isOf(train, trains) && isOf(stop, trains.get(train).plan));
        Stop s = trains.get(train).plan.get(stop);
        return isTime ? s.time : s.station;
    }

    public int waitedFor(int train, int other) {
        index(isOf(train, trains) && isOf(other, trains));
        return trains.get(train).waitedFor.getOrDefault(trains.get(other), 0);
    }

    public int waitsFor(int train) {
        index(isOf(train, trains));
        return numberOf(trains.get(train).blamed);
    }

    public boolean isStuck(int train) {
        index(isOf(train, trains));
        return isStuck(trains.get(train));
    }

    public boolean isOpen(int train, int route) {
        index(isOf(train, trains) && isOf(route, routes));
        return isOpen(routes.get(route), trains.get(train));
    }

    public double meanLate() {
        return trains.stream().mapToInt(t -> t.late).average().orElse(0);
    }

    public int doneIn(int train, int ticks) {
        index(isOf(train, trains));
        argument(in(ticks, 1, 120));
        Model other = again();
        for (int gone = 0; gone <= ticks; gone++) {
            if (other.trains.get(train).where == Where.DONE) {
                return gone;
            }
            other.pass(1);
        }
        return -1;
    }

    private int waitedTogether() {
        return trains.stream().mapToInt(t -> t.waited).sum();
    }

    public int waitedWith(int newOrder, int ticks) {
        argument(in(newOrder, 0, 2) && in(ticks, 1, 120));
        Model other = again();
        other.order(newOrder, stay);
        other.pass(ticks);
        return other.waitedTogether() - waitedTogether();
    }

    public int lostBy(int block, int ticks) {
        index(isOf(block, blocks));
        argument(in(ticks, 1, 60));
        Model without = again();
        without.pass(ticks);
        Model with = again();
        with.shut(block, ticks);
        with.pass(ticks);
        return without.many(3) - with.many(3);
    }

    public int stuckIn(int ticks) {
        argument(in(ticks, 1, 120));
        Model other = again();
        for (int gone = 0; gone <= ticks; gone++) {
            if (other.many(6) > 0) {
                return gone;
            }
            other.pass(1);
        }
        return -1;
    }

    public long digest() {
        List<Integer> values = new ArrayList<>();
        values.add(clock());
        for (int what = 0; what <= 6; what++) {
            values.add(many(what));
        }
        for (int station = 0; station < 6; station++) {
            for (int what = 0; what <= 2; what++) {
                values.add(station(station, what));
            }
        }
        for (Block block : blocks) {
            for (int what = 0; what <= 3; what++) {
                values.add(ofBlock(block.number, what));
            }
        }
        for (Train train : trains) {
            for (int what = 0; what <= 12; what++) {
                values.add(ofTrain(train.number, what));
            }
            values.add(waitsFor(train.number));
            values.add(isStuck(train) ? 1 : 0);
            for (Train other : trains) {
                values.add(waitedFor(train.number, other.number));
            }
        }
        long d = 58091;
        for (int v : values) {
            d = d * 31 + v;
        }
        return d;
    }
}

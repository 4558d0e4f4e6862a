import java.util.LinkedHashMap;
import java.util.List;
import java.util.Map;
import java.util.TreeSet;
import java.util.function.Consumer;
import java.util.function.LongSupplier;
import java.util.function.Supplier;

/**
 * "Nothing is promised beyond the answers and state changes described above": a call that changes something changes
 * the answers that its promise names, and those that follow from them, and no other one.
 */
public final class OnlyThatTest {
    private static final Checks C = new Checks();
    private static final int MOST = 16;

    private static final List<Supplier<SemaphoreBay>> BAYS = List.of(
            Bays::meeting, Bays::station, Bays::full,
            () -> Bays.after(Bays.meeting(), 4), () -> Bays.after(Bays.wholeMeeting(), 3),
            () -> Bays.after(Bays.wholeMeeting(), 5), () -> Bays.after(Bays.station(), 5),
            () -> Bays.after(Bays.station(), 9), () -> Bays.after(Bays.full(), 4),
            () -> Bays.after(Bays.full(), 12), OnlyThatTest::manyThings);

    public static void main(String[] args) {
        for (Supplier<SemaphoreBay> maker : BAYS) {
            platforms(maker);
            block(maker);
            route(maker);
            over(maker);
            shut(maker);
            order(maker);
            train(maker);
            stop(maker);
            holdBack(maker);
            rank(maker);
            thereAndBack(maker);
        }
        C.end("OnlyThatTest");
    }

    /** At clock 4: a shut block, one held back, one that waits for another one, one that stands, one late. */
    private static SemaphoreBay manyThings() {
        SemaphoreBay bay = Bays.row(true, 4, 1, 1);
        bay.block(1);
        bay.route(2, 1, 3, false);
        bay.over(1, 1);
        bay.route(3, 4, 3, false);
        bay.platforms(0, 4);
        for (int train = 0; train < 3; train++) {
            Bays.runner(bay, 3, 0, 1);
        }
        Bays.runner(bay, 1, 2, 1);
        bay.train(4, 2, 5, 9);
        bay.order(1, 0);
        bay.tick(4);
        bay.shut(0, 9);
        bay.holdBack(2, 7);
        C.same("22: one waits", bay.waitsFor(1), 0);
        C.same("19: one stands", bay.ofTrain(3, 11), 1);
        C.same("22: for the one for which the next block is locked", bay.waitsFor(3), 0);
        return bay;
    }

    // ---- all answers by names

    private static Map<String, Double> answers(SemaphoreBay bay) {
        Map<String, Double> answers = new LinkedHashMap<>();
        answers.put("clock", (double) bay.clock());
        answers.put("late", bay.meanLate());
        for (int what = 0; what <= 6; what++) {
            answers.put("many " + what, (double) bay.many(what));
        }
        for (int station = 0; station <= 5; station++) {
            for (int what = 0; what <= 2; what++) {
                answers.put("station " + station + " " + what, (double) bay.station(station, what));
            }
        }
        for (int block = 0; block < bay.many(0); block++) {
            for (int what = 0; what <= 3; what++) {
                answers.put("block " + block + " " + what, (double) bay.ofBlock(block, what));
            }
        }
        for (int route = 0; route < bay.many(1); route++) {
            for (int what = 0; what <= 4; what++) {
                answers.put("route " + route + " " + what, (double) bay.ofRoute(route, what));
            }
            for (int place = 0; place < bay.ofRoute(route, 2); place++) {
                answers.put("place " + route + " " + place, (double) bay.onRoute(route, place));
            }
        }
        for (int train = 0; train < bay.many(2); train++) {
            addTrain(answers, bay, train);
        }
        return answers;
    }

    private static void addTrain(Map<String, Double> answers, SemaphoreBay bay, int train) {
        for (int what = 0; what <= 12; what++) {
            answers.put("train " + train + " " + what, (double) bay.ofTrain(train, what));
        }
        for (int stop = 0; stop < bay.ofTrain(train, 2); stop++) {
            answers.put("plan " + train + " " + stop + " station", (double) bay.plan(train, stop, false));
            answers.put("plan " + train + " " + stop + " time", (double) bay.plan(train, stop, true));
        }
        for (int other = 0; other < bay.many(2); other++) {
            answers.put("waited " + train + " " + other, (double) bay.waitedFor(train, other));
        }
        answers.put("waits " + train, (double) bay.waitsFor(train));
        answers.put("stuck " + train, bay.isStuck(train) ? 1.0 : 0.0);
        for (int route = 0; route < bay.many(1); route++) {
            answers.put("open " + train + " " + route, bay.isOpen(train, route) ? 1.0 : 0.0);
        }
    }

    /** Makes the call; the names of the answers that are others then must match one of the patterns. */
    private static void onlyThat(String what, SemaphoreBay bay, LongSupplier call, String... patterns) {
        Map<String, Double> before = answers(bay);
        call.getAsLong();
        Map<String, Double> after = answers(bay);
        TreeSet<String> names = new TreeSet<>(before.keySet());
        names.addAll(after.keySet());
        for (String name : names) {
            boolean isAlike = after.containsKey(name) && after.get(name).equals(before.get(name));
            C.yes(what + " changed " + name, isAlike || matches(name, patterns));
        }
    }

    private static boolean matches(String name, String... patterns) {
        for (String pattern : patterns) {
            if (name.matches(pattern)) {
                return true;
            }
        }
        return false;
    }

    /** The names of the answers whether a route is open that leads to the station. */
    private static String openTo(SemaphoreBay bay, int station) {
        StringBuilder routes = new StringBuilder("none");
        for (int route = 0; route < bay.many(1); route++) {
            if (bay.ofRoute(route, 1) == station) {
                routes.append('|').append(route);
            }
        }
        return "open \\d+ (" + routes + ")";
    }

    /** The names of the answers whether a route is open that has the block. */
    private static String openOver(SemaphoreBay bay, int block) {
        StringBuilder routes = new StringBuilder("none");
        for (int route = 0; route < bay.many(1); route++) {
            for (int place = 0; place < bay.ofRoute(route, 2); place++) {
                if (bay.onRoute(route, place) == block) {
                    routes.append('|').append(route);
                }
            }
        }
        return "open \\d+ (" + routes + ")";
    }

    // ---- each call that changes something

    private static void platforms(Supplier<SemaphoreBay> maker) {
        for (int station = 0; station <= 5; station++) {
            for (int platforms = 1; platforms <= 4; platforms++) {
                SemaphoreBay bay = maker.get();
                int where = station;
                int platformsThen = platforms;
                onlyThat("2: platforms", bay, () -> bay.platforms(where, platformsThen),
                        "station " + where + " 0", openTo(bay, where));
            }
        }
    }

    private static void block(Supplier<SemaphoreBay> maker) {
        SemaphoreBay bay = maker.get();
        for (int number = bay.many(0); number < MOST; number++) {
            onlyThat("3: block", bay, () -> bay.block(5), "many 0", "block " + number + " .*");
        }
    }

    private static void route(Supplier<SemaphoreBay> maker) {
        SemaphoreBay bay = maker.get();
        for (int number = bay.many(1); number < MOST; number++) {
            int at = number;
            onlyThat("4: route", bay, () -> bay.route(at % 5, 5, at % bay.many(0), at % 2 == 0),
                    "many 1", "(route|place) " + at + " .*", "open \\d+ " + at);
        }
    }

    private static void over(Supplier<SemaphoreBay> maker) {
        SemaphoreBay bay = maker.get();
        int block = bay.many(0) < MOST ? bay.block(1) : 0;
        for (int route = 0; route < bay.many(1); route++) {
            int longer = route;
            int count = bay.ofRoute(route, 2);
            boolean isRefused = count == 5 || block == 0;
            for (int train = 0; train < bay.many(2); train++) {
                isRefused |= bay.ofTrain(train, 6) == route;
            }
            if (!isRefused) {
                onlyThat("5: over", bay, () -> bay.over(longer, block),
                        "route " + route + " [24]", "place " + route + " " + count, "open \\d+ " + route);
            }
        }
    }

    private static void shut(Supplier<SemaphoreBay> maker) {
        SemaphoreBay bay = maker.get();
        for (int ticks : new int[] {1, 100, 0}) {
            for (int block = 0; block < bay.many(0); block++) {
                int number = block;
                onlyThat("6: shut", bay, () -> bay.shut(number, ticks),
                        "block " + block + " 3", openOver(bay, block));
            }
        }
    }

    private static void order(Supplier<SemaphoreBay> maker) {
        SemaphoreBay bay = maker.get();
        for (int order = 0; order <= 2; order++) {
            for (int stay = 0; stay <= 9; stay++) {
                int orderThen = order;
                int stayThen = stay;
                onlyThat("7: order", bay, () -> bay.order(orderThen, stayThen), "train \\d+ 10");
            }
        }
    }

    private static void train(Supplier<SemaphoreBay> maker) {
        for (int station = 0; station <= 5; station++) {
            SemaphoreBay bay = maker.get();
            int where = station;
            int number = bay.many(2);
            if (number == 8 || bay.station(where, 1) + bay.station(where, 2) >= bay.station(where, 0)) {
                continue;
            }
            onlyThat("8: train", bay, () -> bay.train(9, 3, where, 7),
                    "late", "many [24]", "station " + where + " 1", openTo(bay, where),
                    "(train|plan|waits|waited|stuck|open) " + number + "( .*)?", "waited \\d+ " + number);
        }
    }

    private static void stop(Supplier<SemaphoreBay> maker) {
        SemaphoreBay bay = maker.get();
        for (int train = 0; train < bay.many(2); train++) {
            int number = train;
            int count = bay.ofTrain(train, 2);
            int last = bay.plan(train, count - 1, false);
            boolean isDone = bay.ofTrain(train, 4) == -1 && bay.ofTrain(train, 6) == -1;
            if (count < 8 && !isDone) {
                onlyThat("9: stop", bay, () -> bay.stop(number, (last + 1) % 6, 9999),
                        "train " + train + " (2|10)", "plan " + train + " " + count + " .*");
            }
        }
    }

    private static void holdBack(Supplier<SemaphoreBay> maker) {
        SemaphoreBay bay = maker.get();
        for (int ticks : new int[] {1, 100, 0}) {
            for (int train = 0; train < bay.many(2); train++) {
                int number = train;
                onlyThat("10: holdBack", bay, () -> bay.holdBack(number, ticks), "train " + train + " 1[02]");
            }
        }
    }

    private static void rank(Supplier<SemaphoreBay> maker) {
        SemaphoreBay bay = maker.get();
        for (int rank = 0; rank <= 9; rank++) {
            for (int train = 0; train < bay.many(2); train++) {
                int number = train;
                int rankThen = rank;
                onlyThat("11: rank", bay, () -> bay.rank(number, rankThen), "train " + train + " 0");
            }
        }
    }

    // ---- what no answer shows at once

    /** What is put back to what it was leaves nothing that shows as time goes by. */
    private static void thereAndBack(Supplier<SemaphoreBay> maker) {
        alikeBehind("2: platforms", maker, bay -> {
            for (int station = 0; station <= 5; station++) {
                int before = bay.station(station, 0);
                for (int platforms = 1; platforms <= 4; platforms++) {
                    bay.platforms(station, platforms);
                }
                bay.platforms(station, before);
            }
        });
        alikeBehind("6: shut", maker, bay -> {
            for (int block = 0; block < bay.many(0); block++) {
                int till = bay.ofBlock(block, 3);
                bay.shut(block, 100);
                bay.shut(block, till == -1 ? 0 : till - bay.clock());
            }
        });
        alikeBehind("7: order", maker, bay -> {
            int before = bay.order(2, 9);
            bay.order(1, 0);
            bay.order(before, 3);
        }, twin -> twin.order(twin.order(0, 3), 3));
        alikeBehind("10: holdBack", maker, bay -> {
            for (int train = 0; train < bay.many(2); train++) {
                int till = bay.ofTrain(train, 12);
                bay.holdBack(train, 100);
                bay.holdBack(train, till == -1 ? 0 : till - bay.clock());
            }
        });
        alikeBehind("11: rank", maker, bay -> {
            for (int train = 0; train < bay.many(2); train++) {
                int before = bay.rank(train, 9);
                bay.rank(train, 0);
                bay.rank(train, before);
            }
        });
    }

    private static void alikeBehind(String what, Supplier<SemaphoreBay> maker, Consumer<SemaphoreBay> calls) {
        alikeBehind(what, maker, calls, twin -> { });
    }

    private static void alikeBehind(String what, Supplier<SemaphoreBay> maker, Consumer<SemaphoreBay> calls,
            Consumer<SemaphoreBay> twinCalls) {
        SemaphoreBay bay = maker.get();
        SemaphoreBay twin = maker.get();
        calls.accept(bay);
        twinCalls.accept(twin);
        C.alike(what + " there and back", bay, twin);
    }
}

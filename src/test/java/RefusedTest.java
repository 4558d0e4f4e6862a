import java.util.LinkedHashMap;
import java.util.List;
import java.util.Map;
import java.util.Set;
import java.util.TreeSet;
import java.util.function.Supplier;

/**
 * Each bound of each argument just inside and just outside, in every mixture, on lines that are empty, in use and
 * full: which exception it is, that the one named first is thrown where several apply, that a refused call changes
 * nothing, and that no other call is refused.
 */
public final class RefusedTest {
    private static final Checks C = new Checks();
    private static final Map<String, Supplier<SemaphoreBay>> LINES = new LinkedHashMap<>();
    private static final Set<String> SEEN = new TreeSet<>();

    private interface Call {
        void make(SemaphoreBay bay, int[] a);
    }

    private interface Rule {
        boolean holds(SemaphoreBay bay, int[] a);
    }

    /** A call of the face: of what kind each argument is (see edgesOf), and what must hold, in the document's order. */
    private static final class Row {
        final String name;
        final String kinds;
        final Call call;
        Rule index = (bay, a) -> true;
        Rule argument = (bay, a) -> true;
        Rule state = (bay, a) -> true;

        Row(String name, String kinds, Call call) {
            this.name = name;
            this.kinds = kinds;
            this.call = call;
        }

        Row index(Rule rule) {
            index = rule;
            return this;
        }

        Row argument(Rule rule) {
            argument = rule;
            return this;
        }

        Row state(Rule rule) {
            state = rule;
            return this;
        }

        /** The exception that is due; null for none. */
        Class<? extends RuntimeException> due(SemaphoreBay bay, int[] a) {
            if (!index.holds(bay, a)) {
                return Checks.INDEX;
            }
            if (!argument.holds(bay, a)) {
                return Checks.ARGUMENT;
            }
            return state.holds(bay, a) ? null : Checks.STATE;
        }
    }

    private static final List<Row> ROWS = List.of(
            new Row("platforms", "Sp", (bay, a) -> bay.platforms(a[0], a[1]))
                    .index((bay, a) -> isStation(a[0]))
                    .argument((bay, a) -> isIn(a[1], 1, 4)),
            new Row("block", "l", (bay, a) -> bay.block(a[0]))
                    .argument((bay, a) -> isIn(a[0], 1, 9))
                    .state((bay, a) -> bay.many(0) < 16),
            new Row("route", "SSBz", (bay, a) -> bay.route(a[0], a[1], a[2], a[3] == 1))
                    .index((bay, a) -> isStation(a[0]) && isStation(a[1]) && isBlock(bay, a[2]))
                    .argument((bay, a) -> a[0] != a[1])
                    .state((bay, a) -> bay.many(1) < 16),
            new Row("over", "RB", (bay, a) -> bay.over(a[0], a[1]))
                    .index((bay, a) -> isRoute(bay, a[0]) && isBlock(bay, a[1]))
                    .argument((bay, a) -> !isOnRoute(bay, a[0], a[1]))
                    .state((bay, a) -> bay.ofRoute(a[0], 2) < 5 && !isOfATrain(bay, a[0])),
            new Row("shut", "Bh", (bay, a) -> bay.shut(a[0], a[1]))
                    .index((bay, a) -> isBlock(bay, a[0]))
                    .argument((bay, a) -> isIn(a[1], 0, 100)),
            new Row("order", "oy", (bay, a) -> bay.order(a[0], a[1]))
                    .argument((bay, a) -> isIn(a[0], 0, 2) && isIn(a[1], 0, 9)),
            new Row("train", "rcSt", (bay, a) -> bay.train(a[0], a[1], a[2], a[3]))
                    .index((bay, a) -> isStation(a[2]))
                    .argument((bay, a) -> isIn(a[0], 0, 9) && isIn(a[1], 1, 3) && isIn(a[3], 0, 9999))
                    .state((bay, a) -> bay.many(2) < 8 && hasRoom(bay, a[2])),
            new Row("stop", "TSu", (bay, a) -> bay.stop(a[0], a[1], a[2]))
                    .index((bay, a) -> isTrain(bay, a[0]) && isStation(a[1]))
                    .argument((bay, a) -> isIn(a[2], 0, 9999) && isBehindLast(bay, a[0], a[1], a[2]))
                    .state((bay, a) -> bay.ofTrain(a[0], 2) < 8 && !isDone(bay, a[0])),
            new Row("holdBack", "Th", (bay, a) -> bay.holdBack(a[0], a[1]))
                    .index((bay, a) -> isTrain(bay, a[0]))
                    .argument((bay, a) -> isIn(a[1], 0, 100)),
            new Row("rank", "Tr", (bay, a) -> bay.rank(a[0], a[1]))
                    .index((bay, a) -> isTrain(bay, a[0]))
                    .argument((bay, a) -> isIn(a[1], 0, 9)),
            new Row("tick", "k", (bay, a) -> bay.tick(a[0]))
                    .argument((bay, a) -> isIn(a[0], 1, 60)),
            new Row("clock", "", (bay, a) -> bay.clock()),
            new Row("many", "m", (bay, a) -> bay.many(a[0]))
                    .argument((bay, a) -> isIn(a[0], 0, 6)),
            new Row("station", "So", (bay, a) -> bay.station(a[0], a[1]))
                    .index((bay, a) -> isStation(a[0]))
                    .argument((bay, a) -> isIn(a[1], 0, 2)),
            new Row("ofBlock", "Bb", (bay, a) -> bay.ofBlock(a[0], a[1]))
                    .index((bay, a) -> isBlock(bay, a[0]))
                    .argument((bay, a) -> isIn(a[1], 0, 3)),
            new Row("onRoute", "Rn", (bay, a) -> bay.onRoute(a[0], a[1]))
                    .index((bay, a) -> isRoute(bay, a[0]) && isIn(a[1], 0, bay.ofRoute(a[0], 2) - 1)),
            new Row("ofRoute", "Rf", (bay, a) -> bay.ofRoute(a[0], a[1]))
                    .index((bay, a) -> isRoute(bay, a[0]))
                    .argument((bay, a) -> isIn(a[1], 0, 4)),
            new Row("ofTrain", "Tx", (bay, a) -> bay.ofTrain(a[0], a[1]))
                    .index((bay, a) -> isTrain(bay, a[0]))
                    .argument((bay, a) -> isIn(a[1], 0, 12)),
            new Row("plan", "Tnz", (bay, a) -> bay.plan(a[0], a[1], a[2] == 1))
                    .index((bay, a) -> isTrain(bay, a[0]) && isIn(a[1], 0, bay.ofTrain(a[0], 2) - 1)),
            new Row("waitedFor", "TT", (bay, a) -> bay.waitedFor(a[0], a[1]))
                    .index((bay, a) -> isTrain(bay, a[0]) && isTrain(bay, a[1])),
            new Row("waitsFor", "T", (bay, a) -> bay.waitsFor(a[0]))
                    .index((bay, a) -> isTrain(bay, a[0])),
            new Row("isStuck", "T", (bay, a) -> bay.isStuck(a[0]))
                    .index((bay, a) -> isTrain(bay, a[0])),
            new Row("isOpen", "TR", (bay, a) -> bay.isOpen(a[0], a[1]))
                    .index((bay, a) -> isTrain(bay, a[0]) && isRoute(bay, a[1])),
            new Row("meanLate", "", (bay, a) -> bay.meanLate()),
            new Row("doneIn", "Ta", (bay, a) -> bay.doneIn(a[0], a[1]))
                    .index((bay, a) -> isTrain(bay, a[0]))
                    .argument((bay, a) -> isIn(a[1], 1, 120)),
            new Row("waitedWith", "oa", (bay, a) -> bay.waitedWith(a[0], a[1]))
                    .argument((bay, a) -> isIn(a[0], 0, 2) && isIn(a[1], 1, 120)),
            new Row("lostBy", "Bk", (bay, a) -> bay.lostBy(a[0], a[1]))
                    .index((bay, a) -> isBlock(bay, a[0]))
                    .argument((bay, a) -> isIn(a[1], 1, 60)),
            new Row("stuckIn", "a", (bay, a) -> bay.stuckIn(a[0]))
                    .argument((bay, a) -> isIn(a[0], 1, 120)),
            new Row("digest", "", (bay, a) -> bay.digest()));

    private static final String[] MUST_BE_SEEN = {
        "platforms IndexOutOfBoundsException", "platforms IllegalArgumentException",
        "block IllegalArgumentException", "block IllegalStateException",
        "route IndexOutOfBoundsException", "route IllegalArgumentException", "route IllegalStateException",
        "over IndexOutOfBoundsException", "over IllegalArgumentException", "over IllegalStateException",
        "shut IndexOutOfBoundsException", "shut IllegalArgumentException", "order IllegalArgumentException",
        "train IndexOutOfBoundsException", "train IllegalArgumentException", "train IllegalStateException",
        "stop IndexOutOfBoundsException", "stop IllegalArgumentException", "stop IllegalStateException",
        "holdBack IndexOutOfBoundsException", "holdBack IllegalArgumentException",
        "rank IndexOutOfBoundsException", "rank IllegalArgumentException", "tick IllegalArgumentException",
        "many IllegalArgumentException", "station IndexOutOfBoundsException", "station IllegalArgumentException",
        "ofBlock IndexOutOfBoundsException", "ofBlock IllegalArgumentException",
        "onRoute IndexOutOfBoundsException", "ofRoute IndexOutOfBoundsException", "ofRoute IllegalArgumentException",
        "ofTrain IndexOutOfBoundsException", "ofTrain IllegalArgumentException", "plan IndexOutOfBoundsException",
        "waitedFor IndexOutOfBoundsException", "waitsFor IndexOutOfBoundsException",
        "isStuck IndexOutOfBoundsException", "isOpen IndexOutOfBoundsException",
        "doneIn IndexOutOfBoundsException", "doneIn IllegalArgumentException", "waitedWith IllegalArgumentException",
        "lostBy IndexOutOfBoundsException", "lostBy IllegalArgumentException", "stuckIn IllegalArgumentException",
    };

    public static void main(String[] args) {
        LINES.put("empty", SemaphoreBay::new);
        LINES.put("new trains", Bays::station);
        LINES.put("in use", () -> Bays.after(Bays.station(), 5));
        LINES.put("stuck", () -> Bays.after(Bays.meeting(), 3));
        LINES.put("one done, one on its way", () -> Bays.after(Bays.wholeMeeting(), 5));
        LINES.put("full", Bays::full);
        LINES.put("full, later", () -> Bays.after(Bays.full(), 12));
        for (Row row : ROWS) {
            for (String line : LINES.keySet()) {
                look(row, line, LINES.get(line));
            }
        }
        everyKindIsSeen();
        C.end("RefusedTest");
    }

    private static void look(Row row, String line, Supplier<SemaphoreBay> maker) {
        SemaphoreBay refusing = maker.get();
        int[][] edges = new int[row.kinds.length()][];
        for (int i = 0; i < edges.length; i++) {
            edges[i] = edgesOf(row.kinds.charAt(i), refusing);
        }
        lookAtMixtures(row, line, maker, refusing, edges, new int[edges.length], 0);
        // A refused call could change what shows only as time goes by.
        C.alike(row.name + " refused, " + line, refusing, maker.get());
    }

    private static void lookAtMixtures(Row row, String line, Supplier<SemaphoreBay> maker, SemaphoreBay refusing,
            int[][] edges, int[] a, int from) {
        if (from < a.length) {
            for (int edge : edges[from]) {
                a[from] = edge;
                lookAtMixtures(row, line, maker, refusing, edges, a, from + 1);
            }
            return;
        }
        String what = row.name + java.util.Arrays.toString(a) + ", " + line;
        Class<? extends RuntimeException> due = row.due(refusing, a);
        if (due == null) {
            C.accepted(what, () -> make(row, maker.get(), a));
        } else {
            C.refused(what, refusing, due, () -> make(row, refusing, a));
            SEEN.add(row.name + " " + due.getSimpleName());
        }
    }

    private static long make(Row row, SemaphoreBay bay, int[] a) {
        row.call.make(bay, a);
        return 0;
    }

    private static void everyKindIsSeen() {
        for (String what : MUST_BE_SEEN) {
            C.yes("seen: " + what, SEEN.contains(what));
        }
        C.same("kinds seen", SEEN.size(), MUST_BE_SEEN.length);
    }

    /** The values of an argument at its bounds and far out. */
    private static int[] edgesOf(char kind, SemaphoreBay bay) {
        switch (kind) {
            case 'S': return edges(0, 5);
            case 'B': return edges(0, bay.many(0) - 1);
            case 'R': return edges(0, bay.many(1) - 1);
            case 'T': return edges(0, bay.many(2) - 1);
            case 'p': return edges(1, 4);
            case 'l': return edges(1, 9);
            case 'h': return edges(0, 100);
            case 'r': return edges(0, 9);
            case 'y': return edges(0, 9);
            case 'c': return edges(1, 3);
            case 't': return edges(0, 9999);
            case 'u': return timesOfStops(bay);
            case 'k': return edges(1, 60);
            case 'a': return edges(1, 120);
            case 'o': return edges(0, 2);
            case 'm': return edges(0, 6);
            case 'b': return edges(0, 3);
            case 'f': return edges(0, 4);
            case 'x': return edges(0, 12);
            case 'n': return new int[] {Integer.MIN_VALUE, -1, 0, 1, 2, 3, 4, 5, 7, 8, Integer.MAX_VALUE};
            case 'z': return new int[] {0, 1};
            default: throw new AssertionError();
        }
    }

    private static int[] edges(int least, int most) {
        return new int[] {Integer.MIN_VALUE, least - 1, least, most, most + 1, Integer.MAX_VALUE};
    }

    /** The bounds of a time, and those that the last stops of the plans put to it. */
    private static int[] timesOfStops(SemaphoreBay bay) {
        Set<Integer> times = new TreeSet<>(List.of(Integer.MIN_VALUE, -1, 0, 9999, 10000, Integer.MAX_VALUE));
        for (int train = 0; train < bay.many(2); train++) {
            int last = bay.plan(train, bay.ofTrain(train, 2) - 1, true);
            times.add(last - 1);
            times.add(last);
        }
        return times.stream().mapToInt(time -> time).toArray();
    }

    // ---- the document's words, by what can be asked

    private static boolean isIn(int value, int least, int most) {
        return least <= value && value <= most;
    }

    private static boolean isStation(int station) {
        return isIn(station, 0, 5);
    }

    private static boolean isBlock(SemaphoreBay bay, int block) {
        return isIn(block, 0, bay.many(0) - 1);
    }

    private static boolean isRoute(SemaphoreBay bay, int route) {
        return isIn(route, 0, bay.many(1) - 1);
    }

    private static boolean isTrain(SemaphoreBay bay, int train) {
        return isIn(train, 0, bay.many(2) - 1);
    }

    private static boolean isOnRoute(SemaphoreBay bay, int route, int block) {
        for (int place = 0; place < bay.ofRoute(route, 2); place++) {
            if (bay.onRoute(route, place) == block) {
                return true;
            }
        }
        return false;
    }

    private static boolean isOfATrain(SemaphoreBay bay, int route) {
        for (int train = 0; train < bay.many(2); train++) {
            if (bay.ofTrain(train, 6) == route) {
                return true;
            }
        }
        return false;
    }

    private static boolean hasRoom(SemaphoreBay bay, int station) {
        return bay.station(station, 1) + bay.station(station, 2) < bay.station(station, 0);
    }

    private static boolean isBehindLast(SemaphoreBay bay, int train, int station, int time) {
        int last = bay.ofTrain(train, 2) - 1;
        return time >= bay.plan(train, last, true) && station != bay.plan(train, last, false);
    }

    private static boolean isDone(SemaphoreBay bay, int train) {
        return bay.ofTrain(train, 4) == -1 && bay.ofTrain(train, 6) == -1;
    }
}

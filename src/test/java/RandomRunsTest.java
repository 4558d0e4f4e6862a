import java.lang.reflect.InvocationTargetException;
import java.lang.reflect.Method;
import java.util.Map;
import java.util.Random;
import java.util.TreeMap;

/** All promises: long runs of calls, always the same ones, on a SemaphoreBay and on a Model. */
public final class RandomRunsTest {
    private static final int RUNS = 1000;
    private static final int CALLS = 200;

    /** Each call with its weight, and of what each argument is: see argument(). */
    private static final String[] LAYING = {"platforms 2 Sp", "block 2 l", "route 4 SSBz", "over 4 RB"};
    private static final String[] PLANNING = {"train 4 rcSt", "stop 8 TSt", "order 1 oy"};
    private static final String[] GOING = {
        "platforms 1 Sp", "block 1 l", "route 1 SSBz", "over 1 RB", "shut 2 Bh", "order 2 oy",
        "train 4 rcSt", "stop 14 TSt", "holdBack 2 Th", "rank 2 Tr", "tick 34 k", "clock 1 -", "many 2 w",
        "station 2 Sw", "ofBlock 3 Bw", "onRoute 1 Rw", "ofRoute 2 Rw", "ofTrain 6 Tx", "plan 2 Twz",
        "waitedFor 2 TT", "waitsFor 2 T", "isStuck 2 T", "isOpen 4 TR", "meanLate 2 -", "doneIn 5 Ta",
        "waitedWith 3 oa", "lostBy 8 Bq", "stuckIn 4 a", "digest 1 -",
    };

    private static final Map<String, Method> OF_BAY = methodsOf(SemaphoreBay.class);
    private static final Map<String, Method> OF_MODEL = methodsOf(Model.class);
    private static final Map<String, Integer> SEEN = new TreeMap<>();

    private final Random random;
    private final SemaphoreBay bay = new SemaphoreBay();
    private final Model model = new Model();
    private final int stations;
    private final int longest;
    private final StringBuilder told = new StringBuilder();

    private RandomRunsTest(int seed) {
        random = new Random(seed);
        stations = 2 + random.nextInt(2);
        longest = 1 + random.nextInt(5);
    }

    public static void main(String[] args) throws ReflectiveOperationException {
        for (int seed = 0; seed < RUNS; seed++) {
            String fault = new RandomRunsTest(seed).run();
            if (fault != null) {
                System.out.println("RandomRunsTest, seed " + seed + ":\n" + fault);
                System.exit(1);
            }
        }
        String[] due = {"stuck", "two or more stuck", "done", "waits for none", "lost above 0", "lost below 0", "open",
            "would be done", "would be stuck", "stands", "locked", "waits for", "late"};
        for (String what : due) {
            if (SEEN.getOrDefault(what, 0) < 20) {
                System.out.println("RandomRunsTest: too seldom '" + what + "': " + SEEN);
                System.exit(1);
            }
        }
        System.out.println("RandomRunsTest: " + RUNS + " runs of " + CALLS + " calls alike; seen " + SEEN);
    }

    private static Map<String, Method> methodsOf(Class<?> kind) {
        Map<String, Method> found = new TreeMap<>();
        for (Method method : kind.getDeclaredMethods()) {
            if (java.lang.reflect.Modifier.isPublic(method.getModifiers())) {
                found.put(method.getName(), method);
            }
        }
        return found;
    }

    /** What differs, or null. */
    private String run() throws ReflectiveOperationException {
        String fault = random.nextInt(5) == 0 ? null : layTracks();
        for (int made = 0; made < CALLS && fault == null; made++) {
            String call = pick(made < 10 ? LAYING : made < 30 ? PLANNING : GOING);
            String[] parts = call.split(" ");
            Object[] args = new Object[parts[2].equals("-") ? 0 : parts[2].length()];
            for (int i = 0; i < args.length; i++) {
                args[i] = argument(parts[2].charAt(i));
            }
            if (parts[0].equals("stop") && random.nextInt(5) > 0) {
                makeFit(args);
            }
            fault = makeCall(parts[0], args);
        }
        return fault;
    }

    /** Lays routes between all the stations over few blocks, so that trains come into each other's way. */
    private String layTracks() throws ReflectiveOperationException {
        String fault = null;
        int count = 3 + random.nextInt(4);
        for (int block = 0; block < count && fault == null; block++) {
            fault = makeCall("block", argument('l'));
        }
        for (int pair = 0; pair < stations * stations && fault == null; pair++) {
            int route = model.many(1);
            fault = makeCall("route", pair / stations, pair % stations, argument('B'), random.nextInt(3) == 0);
            for (int more = random.nextInt(4); more > 0 && fault == null; more--) {
                fault = makeCall("over", route, argument('B'));
            }
        }
        return fault;
    }

    private String makeCall(String name, Object... args) throws ReflectiveOperationException {
        String got = answer(OF_BAY.get(name), bay, args);
        String due = answer(OF_MODEL.get(name), model, args);
        told.append(name).append(java.util.Arrays.toString(args)).append(' ').append(due).append('\n');
        if (!got.equals(due)) {
            return told + "answered " + got;
        }
        if (bay.digest() != model.digest()) {
            return told + "leaves another digest";
        }
        note(name, got);
        return null;
    }

    private String pick(String[] calls) {
        int sum = 0;
        for (String call : calls) {
            sum += Integer.parseInt(call.split(" ")[1]);
        }
        int at = random.nextInt(sum);
        for (String call : calls) {
            at -= Integer.parseInt(call.split(" ")[1]);
            if (at < 0) {
                return call;
            }
        }
        throw new AssertionError();
    }

    private Object argument(char kind) {
        boolean isOdd = random.nextInt(40) == 0;
        switch (kind) {
            case 'S': return isOdd ? odd(5) : random.nextInt(stations);
            case 'p': return isOdd ? odd(4) : 1 + random.nextInt(4);
            case 'l': return isOdd ? odd(9) : 1 + random.nextInt(longest);
            case 'B': return isOdd ? odd(model.many(0) - 1) : random.nextInt(Math.max(1, model.many(0)));
            case 'R': return isOdd ? odd(model.many(1) - 1) : random.nextInt(Math.max(1, model.many(1)));
            case 'T': return isOdd ? odd(model.many(2) - 1) : random.nextInt(Math.max(1, model.many(2)));
            case 'z': return random.nextBoolean();
            case 'h': return isOdd ? odd(100) : random.nextInt(3) == 0 ? 0 : random.nextInt(20);
            case 'o': return isOdd ? odd(2) : random.nextInt(3);
            case 'y': return isOdd ? odd(9) : random.nextInt(4);
            case 'r': return isOdd ? odd(9) : random.nextInt(10);
            case 'c': return isOdd ? odd(3) : 1 + random.nextInt(3);
            case 't': return isOdd ? odd(9999) : random.nextInt(model.clock() + 10);
            case 'k': return isOdd ? odd(60) : 1 + random.nextInt(random.nextInt(12) == 0 ? 60 : 4);
            case 'q': return isOdd ? odd(60) : 1 + random.nextInt(60);
            case 'a': return isOdd ? odd(120) : 1 + random.nextInt(120);
            case 'w': return isOdd ? odd(6) : random.nextInt(7);
            default: return isOdd ? odd(12) : random.nextInt(13);
        }
    }

    /** Most stops are to be behind the last one of their plan. */
    private void makeFit(Object[] args) {
        int train = (Integer) args[0];
        if (train < 0 || train >= model.many(2)) {
            return;
        }
        int last = model.ofTrain(train, 2) - 1;
        args[1] = (model.plan(train, last, false) + 1 + random.nextInt(stations - 1)) % stations;
        args[2] = Math.min(9999, model.plan(train, last, true) + random.nextInt(12));
    }

    /** A number at an edge or far out. */
    private int odd(int most) {
        int[] some = {-1, 0, most, most + 1, Integer.MIN_VALUE, Integer.MAX_VALUE};
        return some[random.nextInt(some.length)];
    }

    private static String answer(Method method, Object on, Object[] args) throws ReflectiveOperationException {
        try {
            return String.valueOf(method.invoke(on, args));
        } catch (InvocationTargetException e) {
            return "throws." + e.getCause().getClass().getSimpleName();
        }
    }

    private void note(String call, String got) {
        boolean isNumber = !got.startsWith("throws") && !got.equals("true") && !got.equals("false");
        double number = isNumber ? Double.parseDouble(got) : 0;
        see("stuck", model.many(6) > 0);
        see("two or more stuck", model.many(6) > 2);
        see("done", model.many(3) > 0);
        see("late", call.equals("meanLate") && number > 0);
        see("lost above 0", call.equals("lostBy") && number > 0);
        see("waits for none", call.equals("waitsFor") && number < 0);
        see("lost below 0", call.equals("lostBy") && number < 0);
        see("open", got.equals("true") && call.equals("isOpen"));
        see("would be done", call.equals("doneIn") && number > 0);
        see("would be stuck", call.equals("stuckIn") && number > 0);
        for (int train = 0; train < model.many(2); train++) {
            see("stands", model.ofTrain(train, 11) == 1);
            see("waits for", model.waitsFor(train) >= 0);
        }
        for (int block = 0; block < model.many(0); block++) {
            see("locked", model.ofBlock(block, 2) >= 0);
        }
        see(got.startsWith("throws") ? got : "answers", true);
    }

    private static void see(String what, boolean isSo) {
        if (isSo) {
            SEEN.merge(what, 1, Integer::sum);
        }
    }
}

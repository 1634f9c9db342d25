import java.lang.reflect.InvocationTargetException;
import java.lang.reflect.Method;
import java.lang.reflect.Modifier;
import java.nio.charset.StandardCharsets;
import java.util.ArrayList;
import java.util.Arrays;
import java.util.Comparator;
import java.util.List;
import java.util.Random;

/** Runs of calls with fixed seeds; every answer of the program is compared with that of the model. */
public final class RandomTest {
    private static final int RUNS = 2000;
    /** What an object answers after its 512th call is free. */
    private static final int CALLS = 512;
    /** Leaves room for allTheSame. */
    private static final int CALLS_BEFORE_ALL = 170;
    private static final String[] CHANGES = {
        "pass", "pass", "pass", "pass", "pass", "pass", "pass", "addParcel", "addParcel", "setTrackOpen", "setPriority",
        "setInspection", "withdraw", "save", "restore", "undo"};

    private final Random random;
    private final List<Method> methods = new ArrayList<>();
    private final Object[] pair = {new ParcelRailway(), new Model()};
    private final List<String> calls = new ArrayList<>();

    private RandomTest(long seed) {
        random = new Random(seed);
        for (Method m : ParcelRailway.class.getDeclaredMethods()) {
            if (Modifier.isPublic(m.getModifiers())) {
                methods.add(m);
            }
        }
        methods.sort(Comparator.comparing(Method::getName));
    }

    /** Mostly a number below the bound, now and then one beside it. */
    private int below(int bound) {
        return bound == 0 || random.nextInt(40) == 0 ? random.nextInt(bound + 4) - 2 : random.nextInt(bound);
    }

    /** What a method's arguments are: s a station, t a train, p a parcel, m minutes, and so on. */
    private static String kinds(String method) {
        switch (method) {
            case "isRequestStop": case "inspectionTime": case "waitingCount": case "minutesToStop":
                return "s";
            case "waitingParcel":
                return "si";
            case "travelTime": case "isTrackOpen": case "distance":
                return "ss";
            case "setTrackOpen":
                return "AB";
            case "deliveredIfClosed":
                return "ABm";
            case "routeStation":
                return "tr";
            case "carriedParcel":
                return "ti";
            case "loadingObstacle":
                return "tp";
            case "trainStationAfter":
                return "tm";
            case "deliveredAfter":
                return "m";
            case "pass":
                return "h";
            case "addParcel":
                return "ss9";
            case "setPriority":
                return "p9";
            case "setInspection":
                return "sn";
            case "outputByte":
                return "o";
            case "save": case "restore":
                return "2";
            case "withdraw": case "origin": case "destination": case "priority": case "parcelStation":
            case "parcelTrain": case "dropStation": case "transfers": case "isHeld": case "deliveryClock":
            case "minutesToDelivery":
                return "p";
            case "appendInput":
                return "wwwww";
            case "truncateInput":
                return "o";
            default:
                return "t";
        }
    }

    private int argument(char kind) {
        if (random.nextInt(80) == 0) {
            int[] wild = {Integer.MIN_VALUE, Integer.MAX_VALUE, -1, 121, 120, 61, 60, 0, 12, 8};
            return wild[random.nextInt(wild.length)];
        }
        Model model = (Model) pair[1];
        switch (kind) {
            case 's':
                return below(model.stationCount());
            case 't':
                return below(model.trainCount());
            case 'p':
                return below(model.parcelCount());
            case 'm':
                return below(121);
            case 'h':
                return random.nextInt(10) == 0 ? 1 + below(60) : 1 + below(4);
            case '9':
                return 1 + below(9);
            case 'n':
                return below(10);
            case 'r':
                return below(6);
            case 'i':
                return random.nextInt(4) == 0 ? below(5) : 0;
            case 'o':
                return below(30);
            case '2':
                return below(2);
            default:
                return random.nextInt();
        }
    }

    /** Two stations, mostly with a track between them. */
    private int[] trackEnds() {
        Model model = (Model) pair[1];
        int[] ends = {argument('s'), argument('s')};
        for (int tries = 0; tries < 60 && random.nextInt(30) > 0 && model.stationCount() > 1; tries++) {
            ends[0] = random.nextInt(model.stationCount());
            ends[1] = random.nextInt(model.stationCount());
            if (model.travelTime(ends[0], ends[1]) != -1) {
                return ends;
            }
        }
        return ends;
    }

    private Object[] arguments(Method m) {
        Class<?>[] types = m.getParameterTypes();
        String kinds = kinds(m.getName());
        int[] ends = trackEnds();
        Object[] result = new Object[types.length];
        for (int i = 0; i < types.length; i++) {
            if (types[i] == boolean.class) {
                result[i] = random.nextInt(5) < 3;
            } else if (kinds.charAt(i) == 'A' || kinds.charAt(i) == 'B') {
                result[i] = ends[kinds.charAt(i) - 'A'];
            } else {
                result[i] = argument(kinds.charAt(i));
            }
        }
        return result;
    }

    private static String answer(Object object, String name, Class<?>[] types, Object[] arguments) {
        try {
            return String.valueOf(object.getClass().getMethod(name, types).invoke(object, arguments));
        } catch (InvocationTargetException e) {
            return "throws." + e.getCause().getClass().getSimpleName();
        } catch (ReflectiveOperationException e) {
            throw new IllegalStateException(e);
        }
    }

    private boolean call(Method m, Object... arguments) {
        if (calls.size() >= CALLS) {
            return true;
        }
        String text = m.getName() + Arrays.toString(arguments);
        calls.add(text);
        String got = answer(pair[0], m.getName(), m.getParameterTypes(), arguments);
        String want = answer(pair[1], m.getName(), m.getParameterTypes(), arguments);
        Check.same(calls.size() + " calls, the last one " + text, want, got);
        return want.equals(got);
    }

    private Method method(String name) {
        for (Method m : methods) {
            if (m.getName().equals(name)) {
                return m;
            }
        }
        throw new IllegalStateException(name);
    }

    private boolean load(String text) {
        byte[] bytes = text.getBytes(StandardCharsets.ISO_8859_1);
        boolean right = true;
        int length = 0;
        for (int from = 0; from < bytes.length && from < 600; from += 20) {
            Object[] words = new Object[5];
            for (int w = 0; w < 5; w++) {
                int word = 0;
                for (int i = 0; i < 4; i++) {
                    int p = from + w * 4 + i;
                    word = word << 8 | (p < bytes.length ? bytes[p] & 255 : 10);
                }
                words[w] = word;
            }
            right &= call(method("appendInput"), words);
            length += 20;
        }
        if (random.nextInt(4) > 0) {
            right &= call(method("truncateInput"), Math.min(length, bytes.length));
        }
        right &= call(method("load"));
        right &= call(method("errorCode"));
        return right & call(method("errorPosition"));
    }

    private boolean step() {
        int kind = random.nextInt(200);
        if (kind < 3) {
            return load(new RandomText(random).make());
        }
        if (kind < 13) {
            return survey();
        }
        Method m = kind < 100 ? method(CHANGES[random.nextInt(CHANGES.length)]) : methods.get(random.nextInt(methods.size()));
        boolean input = m.getName().equals("load") || m.getName().endsWith("Input");
        return input && random.nextInt(8) > 0 || call(m, arguments(m));
    }

    /** The answers that single calls with random arguments would seldom find interesting. */
    private boolean survey() {
        Model model = (Model) pair[1];
        boolean right = true;
        for (int parcel = 0; parcel < model.parcelCount(); parcel++) {
            right &= call(method("isHeld"), parcel);
            for (int train = 0; train < model.trainCount(); train++) {
                boolean near = model.trainStation(train) != -1
                        && model.trainStation(train) == model.parcelStation(parcel);
                right &= !near || call(method("loadingObstacle"), train, parcel);
            }
        }
        for (int station = 0; station < model.stationCount(); station++) {
            for (int index = model.waitingCount(station); index >= 0; index--) {
                right &= call(method("waitingParcel"), station, index);
            }
        }
        return right;
    }

    private boolean allTheSame() {
        boolean right = true;
        for (Method m : methods) {
            Class<?>[] types = m.getParameterTypes();
            boolean question = !Arrays.asList(CHANGES).contains(m.getName()) && !m.getName().equals("load");
            if (question && types.length == 0) {
                right &= call(m);
            } else if (question && types.length == 1 && !m.getName().equals("truncateInput")) {
                for (int i = 0; i < 12; i++) {
                    right &= call(m, i);
                }
            }
        }
        return right;
    }

    public static void main(String[] args) {
        int runs = args.length > 0 ? Integer.parseInt(args[0]) : RUNS;
        long first = args.length > 1 ? Long.parseLong(args[1]) : 1;
        for (int run = 0; run < runs && Check.wrongSoFar() < 5; run++) {
            RandomTest test = new RandomTest(first + run);
            boolean right = test.random.nextInt(3) == 0 || test.load(new RandomText(test.random).make());
            int limit = run % 2 == 0 ? CALLS : CALLS_BEFORE_ALL;
            while (right && test.calls.size() < limit) {
                right = test.step();
            }
            if (!right || !test.allTheSame()) {
                System.out.println("seed " + (first + run) + ": " + test.calls);
            }
        }
        Check.finish("RandomTest");
    }
}

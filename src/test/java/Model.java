import java.io.ByteArrayOutputStream;
import java.util.ArrayDeque;
import java.util.ArrayList;
import java.util.Arrays;
import java.util.Deque;
import java.util.HashMap;
import java.util.List;
import java.util.Map;
import java.util.NoSuchElementException;
import java.util.Set;
import java.util.TreeSet;

/**
 * The document once more, written without a look at the program and by other means (lists, maps, copies of the whole
 * world), so that RandomTest can compare the two. It needs no care for room or speed.
 */
public final class Model {
    private static final class Stop {
        String name;
        boolean request;
        int inspection;
    }

    private static final class Rail {
        int minutes;
        boolean open = true;
    }

    private static final class Engine {
        int capacity;
        List<Integer> route = new ArrayList<>();
        // Counts the stations reached on the way there and back: 0 .. 2 * (n - 1) - 1.
        int phase;
        int traveled = -1;
        int delay;
        int made;
        int passed;

        int last() {
            return route.size() - 1;
        }

        int indexOf(int anyPhase) {
            int wrapped = anyPhase % (2 * last());
            return wrapped <= last() ? wrapped : 2 * last() - wrapped;
        }

        int at() {
            return route.get(indexOf(phase));
        }

        int next() {
            return route.get(indexOf(phase + 1));
        }

        boolean forward() {
            return phase < last();
        }

        List<Integer> ahead() {
            List<Integer> stations = new ArrayList<>();
            int end = forward() ? last() : 2 * last();
            for (int k = phase + 1; k <= end; k++) {
                stations.add(route.get(indexOf(k)));
            }
            return stations;
        }
    }

    private static final class Box {
        int origin;
        int destination;
        int priority;
        String where = "waits";
        int place;
        int drop = -1;
        int transfers;
        int freeFrom;
        int delivered = -1;
    }

    private static final class World {
        int clock;
        List<Stop> stops = new ArrayList<>();
        List<Set<Integer>> ends = new ArrayList<>();
        Map<Set<Integer>, Rail> rails = new HashMap<>();
        List<Engine> engines = new ArrayList<>();
        List<Box> boxes = new ArrayList<>();
        Set<Integer> stoppedNow = new TreeSet<>();
        int loads;
        int unloads;

        World copy() {
            World w = new World();
            w.clock = clock;
            w.loads = loads;
            w.unloads = unloads;
            for (Stop s : stops) {
                Stop t = new Stop();
                t.name = s.name;
                t.request = s.request;
                t.inspection = s.inspection;
                w.stops.add(t);
            }
            w.ends.addAll(ends);
            for (Map.Entry<Set<Integer>, Rail> e : rails.entrySet()) {
                Rail r = new Rail();
                r.minutes = e.getValue().minutes;
                r.open = e.getValue().open;
                w.rails.put(e.getKey(), r);
            }
            for (Engine e : engines) {
                Engine f = new Engine();
                f.capacity = e.capacity;
                f.route = e.route;
                f.phase = e.phase;
                f.traveled = e.traveled;
                f.delay = e.delay;
                f.made = e.made;
                f.passed = e.passed;
                w.engines.add(f);
            }
            for (Box b : boxes) {
                Box c = new Box();
                c.origin = b.origin;
                c.destination = b.destination;
                c.priority = b.priority;
                c.where = b.where;
                c.place = b.place;
                c.drop = b.drop;
                c.transfers = b.transfers;
                c.freeFrom = b.freeFrom;
                c.delivered = b.delivered;
                w.boxes.add(c);
            }
            return w;
        }

        Rail rail(int a, int b) {
            return a == b ? null : rails.get(Set.of(a, b));
        }

        /** Null if there is no distance. */
        Integer distance(int from, int to) {
            Integer[] best = new Integer[stops.size()];
            best[from] = 0;
            for (int round = 0; round < stops.size(); round++) {
                for (Set<Integer> pair : ends) {
                    Rail r = rails.get(pair);
                    if (!r.open) {
                        continue;
                    }
                    for (int a : pair) {
                        for (int b : pair) {
                            if (a != b && best[a] != null && (best[b] == null || best[a] + r.minutes < best[b])) {
                                best[b] = best[a] + r.minutes;
                            }
                        }
                    }
                }
            }
            return best[to];
        }

        /** Null if there is no drop station. */
        Integer drop(Engine e, Box b) {
            Integer smallest = null;
            Integer found = null;
            for (int s : e.ahead()) {
                Integer d = distance(s, b.destination);
                if (d != null && (smallest == null || d < smallest)) {
                    smallest = d;
                    found = s;
                }
            }
            Integer own = distance(e.at(), b.destination);
            return found != null && (own == null || smallest < own) ? found : null;
        }

        List<Integer> waiting(int station) {
            List<Integer> list = new ArrayList<>();
            for (int p = 9; p >= 1; p--) {
                for (int i = 0; i < boxes.size(); i++) {
                    Box b = boxes.get(i);
                    if (b.where.equals("waits") && b.place == station && b.priority == p) {
                        list.add(i);
                    }
                }
            }
            return list;
        }

        List<Integer> carried(int train) {
            List<Integer> list = new ArrayList<>();
            for (int i = 0; i < boxes.size(); i++) {
                if (boxes.get(i).where.equals("rides") && boxes.get(i).place == train) {
                    list.add(i);
                }
            }
            return list;
        }

        boolean held(Box b) {
            return b.where.equals("waits") && clock < b.freeFrom;
        }

        /** What the train would load now, in order. */
        List<Integer> wouldLoad(int train) {
            Engine e = engines.get(train);
            int room = e.capacity - carried(train).size();
            List<Integer> list = new ArrayList<>();
            for (int i : waiting(e.at())) {
                if (list.size() < room && !held(boxes.get(i)) && drop(e, boxes.get(i)) != null) {
                    list.add(i);
                }
            }
            return list;
        }

        void depart(Engine e) {
            if (rail(e.at(), e.next()).open) {
                e.traveled = 0;
            } else {
                e.delay++;
            }
        }

        void minute() {
            clock++;
            stoppedNow.clear();
            for (int t = 0; t < engines.size(); t++) {
                Engine e = engines.get(t);
                if (e.traveled < 0) {
                    for (int i : wouldLoad(t)) {
                        Box b = boxes.get(i);
                        b.drop = drop(e, b);
                        b.where = "rides";
                        b.place = t;
                        loads++;
                    }
                    depart(e);
                } else {
                    e.traveled++;
                    if (e.traveled == rail(e.at(), e.next()).minutes) {
                        arrive(t);
                    }
                }
            }
        }

        void arrive(int t) {
            Engine e = engines.get(t);
            e.phase = (e.phase + 1) % (2 * e.last());
            e.traveled = -1;
            int here = e.at();
            boolean stops = !this.stops.get(here).request || e.phase == 0 || e.phase == e.last();
            for (int i : carried(t)) {
                stops |= boxes.get(i).drop == here;
            }
            stops |= !wouldLoad(t).isEmpty();
            if (!stops) {
                e.passed++;
                depart(e);
                return;
            }
            e.made++;
            stoppedNow.add(here);
            for (int i : carried(t)) {
                Box b = boxes.get(i);
                if (b.drop != here) {
                    continue;
                }
                unloads++;
                b.drop = -1;
                b.place = here;
                if (b.destination == here) {
                    b.where = "gone";
                    b.delivered = clock;
                } else {
                    b.where = "waits";
                    b.transfers++;
                    b.freeFrom = clock + this.stops.get(here).inspection;
                }
            }
        }

        int delivered() {
            int n = 0;
            for (Box b : boxes) {
                n += b.where.equals("gone") ? 1 : 0;
            }
            return n;
        }
    }

    private static final class TextError extends Exception {
        private static final long serialVersionUID = 1L;
        final int code;
        final int position;

        TextError(int code, int position) {
            this.code = code;
            this.position = position;
        }
    }

    /** One text, cut into tokens first and read afterwards. */
    private static final class Reader {
        final List<String> tokens = new ArrayList<>();
        final List<Integer> positions = new ArrayList<>();
        final World world = new World();
        int at;

        Reader(byte[] bytes) {
            int i = 0;
            while (i < bytes.length) {
                int from = i;
                char kind = kind(bytes[i]);
                i++;
                while ((kind == 'w' || kind == 'n') && i < bytes.length && kind(bytes[i]) == kind) {
                    i++;
                }
                if (kind != ' ') {
                    StringBuilder token = new StringBuilder();
                    for (int k = from; k < i; k++) {
                        token.append((char) (bytes[k] & 255));
                    }
                    tokens.add(token.toString());
                    positions.add(from);
                }
            }
            tokens.add("");
            positions.add(bytes.length);
        }

        static char kind(byte b) {
            if (b >= 'a' && b <= 'z') {
                return 'w';
            }
            if (b >= '0' && b <= '9') {
                return 'n';
            }
            return b == 32 || b == 10 ? ' ' : 'o';
        }

        TextError error(int code) {
            return new TextError(code, positions.get(at));
        }

        String token() {
            return tokens.get(at);
        }

        String word() throws TextError {
            if (!token().matches("[a-z]+")) {
                throw error(1);
            }
            return token();
        }

        int number(int least, int greatest) throws TextError {
            if (!token().matches("[0-9]+")) {
                throw error(1);
            }
            java.math.BigInteger n = new java.math.BigInteger(token());
            if (n.compareTo(java.math.BigInteger.valueOf(least)) < 0
                    || n.compareTo(java.math.BigInteger.valueOf(greatest)) > 0) {
                throw error(2);
            }
            at++;
            return n.intValue();
        }

        int station() throws TextError {
            String name = word();
            for (int s = 0; s < world.stops.size(); s++) {
                if (world.stops.get(s).name.equals(name)) {
                    return s;
                }
            }
            throw error(4);
        }

        void end() throws TextError {
            if (!token().equals(";")) {
                throw error(1);
            }
            at++;
        }

        void limit(int size, int limit) throws TextError {
            if (size >= limit) {
                throw error(6);
            }
            at++;
        }

        World read() throws TextError {
            while (at < tokens.size() - 1) {
                statement();
            }
            return world;
        }

        void statement() throws TextError {
            switch (word()) {
                case "stop":
                case "request":
                    readStop();
                    break;
                case "track":
                    readTrack();
                    break;
                case "train":
                    readTrain();
                    break;
                case "parcel":
                    readParcel();
                    break;
                case "inspect":
                    at++;
                    int inspected = station();
                    at++;
                    int inspection = number(0, 9);
                    end();
                    world.stops.get(inspected).inspection = inspection;
                    break;
                case "close":
                    at++;
                    int a = station();
                    at++;
                    int b = station();
                    if (world.rail(a, b) == null) {
                        throw error(5);
                    }
                    at++;
                    end();
                    world.rail(a, b).open = false;
                    break;
                case "run":
                    at++;
                    int minutes = number(0, 60);
                    end();
                    while (minutes-- > 0) {
                        world.minute();
                    }
                    break;
                default:
                    throw error(1);
            }
        }

        void readStop() throws TextError {
            boolean request = token().equals("request");
            limit(world.stops.size(), 8);
            Stop s = new Stop();
            s.request = request;
            s.name = word();
            if (s.name.length() > 4) {
                throw error(2);
            }
            for (Stop other : world.stops) {
                if (other.name.equals(s.name)) {
                    throw error(3);
                }
            }
            at++;
            end();
            world.stops.add(s);
        }

        void readTrack() throws TextError {
            limit(world.ends.size(), 12);
            int a = station();
            at++;
            int b = station();
            if (a == b || world.rail(a, b) != null) {
                throw error(5);
            }
            at++;
            Rail r = new Rail();
            r.minutes = number(1, 9);
            end();
            world.rails.put(Set.of(a, b), r);
            world.ends.add(Set.of(a, b));
        }

        void readTrain() throws TextError {
            limit(world.engines.size(), 4);
            Engine e = new Engine();
            e.capacity = number(1, 4);
            e.route.add(station());
            at++;
            do {
                int s = station();
                if (world.rail(e.route.get(e.route.size() - 1), s) == null) {
                    throw error(5);
                }
                if (e.route.size() == 6) {
                    throw error(6);
                }
                e.route.add(s);
                at++;
            } while (!token().equals(";"));
            end();
            world.engines.add(e);
        }

        void readParcel() throws TextError {
            limit(world.boxes.size(), 12);
            Box b = new Box();
            b.origin = station();
            b.place = b.origin;
            at++;
            b.destination = station();
            if (b.origin == b.destination) {
                throw error(5);
            }
            at++;
            b.priority = number(1, 9);
            end();
            world.boxes.add(b);
        }
    }

    private static final String FIRST = "stop a;request b;stop c;request d;track a b 2;track b c 3;track c d 1;"
            + "train 2 a b c;train 1 d c;parcel a c 5;parcel a d 7;parcel b a 3;parcel d b 1;inspect c 2;run 4;";

    private World world;
    private byte[] input = new byte[0];
    private int code;
    private int position = -1;
    private byte[] output = new byte[0];
    private final World[] slots = new World[2];
    private final Deque<World> past = new ArrayDeque<>();

    public Model() {
        try {
            world = new Reader(FIRST.getBytes()).read();
        } catch (TextError e) {
            throw new IllegalStateException(e);
        }
    }

    private void remember() {
        past.addLast(world);
        if (past.size() > 8) {
            past.removeFirst();
        }
        world = world.copy();
    }

    private static void in(int value, int size) {
        if (value < 0 || value >= size) {
            throw new IndexOutOfBoundsException();
        }
    }

    private static void range(int value, int least, int greatest) {
        if (value < least || value > greatest) {
            throw new IllegalArgumentException();
        }
    }

    private Stop stop(int s) {
        in(s, world.stops.size());
        return world.stops.get(s);
    }

    private Engine engine(int t) {
        in(t, world.engines.size());
        return world.engines.get(t);
    }

    private Box box(int p) {
        in(p, world.boxes.size());
        return world.boxes.get(p);
    }

    private Rail rail(int a, int b) {
        stop(a);
        stop(b);
        return world.rail(a, b);
    }

    private static int element(List<Integer> list, int index) {
        if (index < 0 || index >= list.size()) {
            throw new NoSuchElementException();
        }
        return list.get(index);
    }

    public int appendInput(int a, int b, int c, int d, int e) {
        if (input.length + 20 > 600) {
            throw new IllegalStateException();
        }
        byte[] longer = Arrays.copyOf(input, input.length + 20);
        java.nio.ByteBuffer.wrap(longer, input.length, 20).putInt(a).putInt(b).putInt(c).putInt(d).putInt(e);
        input = longer;
        return input.length;
    }

    public int truncateInput(int length) {
        range(length, 0, input.length);
        input = Arrays.copyOf(input, length);
        return length;
    }

    public int load() {
        byte[] text = input;
        input = new byte[0];
        try {
            World loaded = new Reader(text).read();
            remember();
            world = loaded;
            code = 0;
            position = -1;
            return world.stops.size();
        } catch (TextError e) {
            code = e.code;
            position = e.position;
            throw new IllegalArgumentException();
        }
    }

    public int errorCode() {
        return code;
    }

    public int errorPosition() {
        return position;
    }

    public int clock() {
        return world.clock;
    }

    public int stationCount() {
        return world.stops.size();
    }

    public int trackCount() {
        return world.ends.size();
    }

    public int trainCount() {
        return world.engines.size();
    }

    public int parcelCount() {
        return world.boxes.size();
    }

    public boolean isRequestStop(int station) {
        return stop(station).request;
    }

    public int inspectionTime(int station) {
        return stop(station).inspection;
    }

    public int waitingCount(int station) {
        stop(station);
        return world.waiting(station).size();
    }

    public int waitingParcel(int station, int index) {
        stop(station);
        return element(world.waiting(station), index);
    }

    public int travelTime(int from, int to) {
        Rail r = rail(from, to);
        return r == null ? -1 : r.minutes;
    }

    public boolean isTrackOpen(int from, int to) {
        Rail r = rail(from, to);
        return r != null && r.open;
    }

    public int distance(int from, int to) {
        rail(from, to);
        Integer d = world.distance(from, to);
        return d == null ? -1 : d;
    }

    public int capacity(int train) {
        return engine(train).capacity;
    }

    public int routeLength(int train) {
        return engine(train).route.size();
    }

    public int routeStation(int train, int index) {
        return element(engine(train).route, index);
    }

    public int carriedCount(int train) {
        engine(train);
        return world.carried(train).size();
    }

    public int carriedParcel(int train, int index) {
        engine(train);
        return element(world.carried(train), index);
    }

    public int trainStation(int train) {
        return engine(train).traveled < 0 ? engine(train).at() : -1;
    }

    public int nextStation(int train) {
        return engine(train).next();
    }

    public boolean isForward(int train) {
        return engine(train).forward();
    }

    public int minutesToNext(int train) {
        Engine e = engine(train);
        return e.traveled < 0 ? -1 : world.rail(e.at(), e.next()).minutes - e.traveled;
    }

    public int delay(int train) {
        return engine(train).delay;
    }

    public int stopsMade(int train) {
        return engine(train).made;
    }

    public int stopsPassed(int train) {
        return engine(train).passed;
    }

    public int origin(int parcel) {
        return box(parcel).origin;
    }

    public int destination(int parcel) {
        return box(parcel).destination;
    }

    public int priority(int parcel) {
        return box(parcel).priority;
    }

    public int parcelStation(int parcel) {
        return box(parcel).where.equals("waits") ? box(parcel).place : -1;
    }

    public int parcelTrain(int parcel) {
        return box(parcel).where.equals("rides") ? box(parcel).place : -1;
    }

    public int dropStation(int parcel) {
        return box(parcel).drop;
    }

    public int transfers(int parcel) {
        return box(parcel).transfers;
    }

    public boolean isHeld(int parcel) {
        return world.held(box(parcel));
    }

    public int deliveryClock(int parcel) {
        return box(parcel).delivered;
    }

    public int loadingObstacle(int train, int parcel) {
        Engine e = engine(train);
        Box b = box(parcel);
        if (!b.where.equals("waits") || e.traveled >= 0 || b.place != e.at()) {
            return 1;
        }
        if (world.held(b)) {
            return 2;
        }
        if (world.drop(e, b) == null) {
            return 3;
        }
        return world.wouldLoad(train).contains(parcel) ? 0 : 4;
    }

    public int deliveredCount() {
        return world.delivered();
    }

    public int parcelBalance() {
        return 0;
    }

    public int loadingBalance() {
        int riding = 0;
        for (Box b : world.boxes) {
            riding += b.where.equals("rides") ? 1 : 0;
        }
        return world.loads - world.unloads - riding;
    }

    public double meanDeliveryClock() {
        double sum = 0;
        for (Box b : world.boxes) {
            sum += b.delivered >= 0 ? b.delivered : 0;
        }
        return world.delivered() == 0 ? 0.0 : sum / world.delivered();
    }

    public float deliveredShare() {
        return world.boxes.isEmpty() ? 0.0f : (float) world.delivered() / world.boxes.size();
    }

    public int minutesToDelivery(int parcel) {
        box(parcel);
        World w = world.copy();
        for (int m = 0; m <= 120; m++) {
            if (w.boxes.get(parcel).delivered >= 0) {
                return m;
            }
            w.minute();
        }
        return -1;
    }

    public int minutesToFinish() {
        int longest = 0;
        for (int p = 0; p < world.boxes.size(); p++) {
            int m = minutesToDelivery(p);
            if (m < 0) {
                return -1;
            }
            longest = Math.max(longest, m);
        }
        return longest;
    }

    public int minutesToStop(int station) {
        stop(station);
        World w = world.copy();
        for (int m = 1; m <= 120; m++) {
            w.minute();
            if (w.stoppedNow.contains(station)) {
                return m;
            }
        }
        return -1;
    }

    private World after(World start, int minutes) {
        World w = start.copy();
        for (int m = 0; m < minutes; m++) {
            w.minute();
        }
        return w;
    }

    public int trainStationAfter(int train, int minutes) {
        engine(train);
        range(minutes, 0, 120);
        Engine e = after(world, minutes).engines.get(train);
        return e.traveled < 0 ? e.at() : -1;
    }

    public int deliveredAfter(int minutes) {
        range(minutes, 0, 120);
        return after(world, minutes).delivered();
    }

    private int closedFor(Set<Integer> pair, int minutes) {
        World w = world.copy();
        w.rails.get(pair).open = false;
        return after(w, minutes).delivered();
    }

    public int deliveredIfClosed(int from, int to, int minutes) {
        if (rail(from, to) == null) {
            throw new IllegalArgumentException();
        }
        range(minutes, 0, 120);
        return closedFor(Set.of(from, to), minutes);
    }

    public int worstClosure() {
        int worst = -1;
        for (int i = world.ends.size() - 1; i >= 0; i--) {
            if (worst < 0 || closedFor(world.ends.get(i), 60) <= closedFor(world.ends.get(worst), 60)) {
                worst = i;
            }
        }
        return worst;
    }

    public int pass(int minutes) {
        range(minutes, 1, 60);
        int before = world.delivered();
        remember();
        world = after(world, minutes);
        return world.delivered() - before;
    }

    public int addParcel(int origin, int destination, int priority) {
        stop(origin);
        stop(destination);
        if (origin == destination) {
            throw new IllegalArgumentException();
        }
        range(priority, 1, 9);
        if (world.boxes.size() == 12) {
            throw new IllegalStateException();
        }
        remember();
        Box b = new Box();
        b.origin = origin;
        b.destination = destination;
        b.priority = priority;
        b.place = origin;
        world.boxes.add(b);
        return world.boxes.size() - 1;
    }

    public boolean setTrackOpen(int from, int to, boolean isOpen) {
        if (rail(from, to) == null) {
            throw new IllegalArgumentException();
        }
        remember();
        boolean before = rail(from, to).open;
        rail(from, to).open = isOpen;
        return before;
    }

    public int setPriority(int parcel, int priority) {
        box(parcel);
        range(priority, 1, 9);
        remember();
        int before = box(parcel).priority;
        box(parcel).priority = priority;
        return before;
    }

    public int setInspection(int station, int minutes) {
        stop(station);
        range(minutes, 0, 9);
        remember();
        int before = stop(station).inspection;
        stop(station).inspection = minutes;
        return before;
    }

    public int withdraw(int parcel) {
        if (!box(parcel).where.equals("waits")) {
            throw new IllegalStateException();
        }
        remember();
        Box b = box(parcel);
        if (b.place == b.origin) {
            b.where = "gone";
            b.delivered = world.clock;
            return -1;
        }
        b.destination = b.origin;
        b.origin = b.place;
        b.freeFrom = world.clock;
        return b.destination;
    }

    public int writeTrains() {
        List<String> parts = new ArrayList<>();
        for (int t = 0; t < world.engines.size(); t++) {
            Engine e = world.engines.get(t);
            String place = world.stops.get(e.at()).name;
            if (e.traveled >= 0) {
                place += ">" + world.stops.get(e.next()).name;
            }
            parts.add(place + ":" + world.carried(t).size());
        }
        return write(parts);
    }

    public int writeParcels() {
        List<String> parts = new ArrayList<>();
        for (Box b : world.boxes) {
            if (b.where.equals("waits")) {
                parts.add("@" + world.stops.get(b.place).name);
            } else {
                parts.add(b.where.equals("rides") ? "#" + b.place : "=");
            }
        }
        return write(parts);
    }

    private int write(List<String> parts) {
        ByteArrayOutputStream bytes = new ByteArrayOutputStream();
        bytes.writeBytes(String.join(" ", parts).getBytes());
        output = bytes.toByteArray();
        return output.length;
    }

    public int outputByte(int position) {
        if (position < 0 || position >= output.length) {
            throw new NoSuchElementException();
        }
        return output[position];
    }

    public int save(int slot) {
        in(slot, 2);
        slots[slot] = world.copy();
        return world.clock;
    }

    public int restore(int slot) {
        in(slot, 2);
        if (slots[slot] == null) {
            throw new IllegalStateException();
        }
        remember();
        world = slots[slot].copy();
        return world.clock;
    }

    public int undo() {
        if (past.isEmpty()) {
            throw new IllegalStateException();
        }
        world = past.removeLast();
        return past.size();
    }

    public int undoDepth() {
        return past.size();
    }
}

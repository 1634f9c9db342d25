import java.util.NoSuchElementException;

/** A railway whose trains carry parcels between stations. What each call answers is told in DOC.md. */
public final class ParcelRailway {
    public static final int NONE = -1;

    private static final int STATION_LIMIT = 8;
    private static final int TRACK_LIMIT = 12;
    private static final int TRAIN_LIMIT = 4;
    private static final int PARCEL_LIMIT = 12;
    private static final int CAPACITY_LIMIT = 4;
    private static final int ROUTE_MINIMUM = 2;
    private static final int ROUTE_LIMIT = 6;
    private static final int NAME_LIMIT = 4;
    private static final int TRAVEL_LIMIT = 9;
    private static final int PRIORITY_LIMIT = 9;
    private static final int INSPECTION_LIMIT = 9;
    private static final int PASS_LIMIT = 60;
    private static final int FUTURE_LIMIT = 120;
    private static final int CLOSURE_MINUTES = 60;
    private static final int INPUT_LIMIT = 600;
    private static final int APPENDED_BYTES = 20;
    private static final int SLOT_COUNT = 2;
    private static final int UNDO_LIMIT = 8;
    // The longest output is that of twelve waiting parcels: 12 times "@abcd" and 11 spaces.
    private static final int OUTPUT_LIMIT = 71;
    // No sum of travel times reaches it, so a missing distance needs no case of its own in comparisons.
    private static final int FAR = 1000;
    private static final String INITIAL_TEXT =
        "stop a;request b;stop c;request d;track a b 2;track b c 3;track c d 1;train 2 a b c;train 1 d c;parcel a c 5;parcel a d 7;parcel b a 3;parcel d b 1;inspect c 2;run 4;";

    private final State state = new State();
    // Questions about the future let their minutes pass here, so that they neither change the state nor make objects.
    private final State future = new State();
    private final Parser parser = new Parser();
    private final History history = new History();
    private final Output output = new Output();
    private final State[] slots = new State[SLOT_COUNT];
    private final boolean[] slotFilled = new boolean[SLOT_COUNT];

    public ParcelRailway() {
        for (int i = 0; i < slots.length; i++) {
            slots[i] = new State();
        }
        parser.tokens.appendText(INITIAL_TEXT);
        parser.parse();
        state.copyFrom(parser.result);
    }

    // ---- input text ----

    public int appendInput(int a, int b, int c, int d, int e) throws IllegalStateException {
        Tokens tokens = parser.tokens;
        if (tokens.length + APPENDED_BYTES > INPUT_LIMIT) {
            throw new IllegalStateException("the input buffer is full");
        }
        tokens.appendFourBytes(a);
        tokens.appendFourBytes(b);
        tokens.appendFourBytes(c);
        tokens.appendFourBytes(d);
        tokens.appendFourBytes(e);
        return tokens.length;
    }

    public int truncateInput(int length) throws IllegalArgumentException {
        if (length < 0 || length > parser.tokens.length) {
            throw new IllegalArgumentException("the length is out of range");
        }
        parser.tokens.length = length;
        return length;
    }

    public int load() throws IllegalArgumentException {
        parser.parse();
        if (parser.errorCode != 0) {
            throw new IllegalArgumentException("the text has an error");
        }
        history.remember(state);
        state.copyFrom(parser.result);
        return state.stationCount;
    }

    public int errorCode() {
        return parser.errorCode;
    }

    public int errorPosition() {
        return parser.errorPosition;
    }

    // ---- what exists ----

    public int clock() {
        return state.clock;
    }

    public int stationCount() {
        return state.stationCount;
    }

    public int trackCount() {
        return state.trackCount;
    }

    public int trainCount() {
        return state.trainCount;
    }

    public int parcelCount() {
        return state.parcelCount;
    }

    // ---- stations and tracks ----

    public boolean isRequestStop(int station) throws IndexOutOfBoundsException {
        checkStation(station);
        return state.stations[station].isRequest;
    }

    public int inspectionTime(int station) throws IndexOutOfBoundsException {
        checkStation(station);
        return state.stations[station].inspection;
    }

    public int waitingCount(int station) throws IndexOutOfBoundsException {
        checkStation(station);
        return state.countWaitingAt(station);
    }

    public int waitingParcel(int station, int index) throws IndexOutOfBoundsException, NoSuchElementException {
        checkStation(station);
        int parcel = state.findWaiting(station, index);
        if (parcel == NONE) {
            throw new NoSuchElementException("no such index");
        }
        return parcel;
    }

    public int travelTime(int from, int to) throws IndexOutOfBoundsException {
        checkStation(from);
        checkStation(to);
        int track = state.findTrack(from, to);
        return track == NONE ? NONE : state.tracks[track].minutes;
    }

    public boolean isTrackOpen(int from, int to) throws IndexOutOfBoundsException {
        checkStation(from);
        checkStation(to);
        int track = state.findTrack(from, to);
        return track != NONE && state.tracks[track].isOpen;
    }

    public int distance(int from, int to) throws IndexOutOfBoundsException {
        checkStation(from);
        checkStation(to);
        int minutes = state.distanceBetween(from, to);
        return minutes == FAR ? NONE : minutes;
    }

    // ---- trains ----

    public int capacity(int train) throws IndexOutOfBoundsException {
        checkTrain(train);
        return state.trains[train].room;
    }

    public int routeLength(int train) throws IndexOutOfBoundsException {
        checkTrain(train);
        return state.trains[train].stopCount;
    }

    public int routeStation(int train, int index) throws IndexOutOfBoundsException, NoSuchElementException {
        checkTrain(train);
        int station = state.trains[train].stationAt(index);
        if (station == NONE) {
            throw new NoSuchElementException("no such index");
        }
        return station;
    }

    public int carriedCount(int train) throws IndexOutOfBoundsException {
        checkTrain(train);
        return state.countCarriedBy(train);
    }

    public int carriedParcel(int train, int index) throws IndexOutOfBoundsException, NoSuchElementException {
        checkTrain(train);
        int parcel = state.findCarried(train, index);
        if (parcel == NONE) {
            throw new NoSuchElementException("no such index");
        }
        return parcel;
    }

    public int trainStation(int train) throws IndexOutOfBoundsException {
        checkTrain(train);
        return state.trains[train].standsAt();
    }

    public int nextStation(int train) throws IndexOutOfBoundsException {
        checkTrain(train);
        return state.trains[train].stationAhead(1);
    }

    public boolean isForward(int train) throws IndexOutOfBoundsException {
        checkTrain(train);
        return state.trains[train].goesForward;
    }

    public int minutesToNext(int train) throws IndexOutOfBoundsException {
        checkTrain(train);
        int minutes = state.trains[train].minutesLeft;
        return minutes == 0 ? NONE : minutes;
    }

    public int delay(int train) throws IndexOutOfBoundsException {
        checkTrain(train);
        return state.trains[train].minutesDelayed;
    }

    public int stopsMade(int train) throws IndexOutOfBoundsException {
        checkTrain(train);
        return state.trains[train].timesStopped;
    }

    public int stopsPassed(int train) throws IndexOutOfBoundsException {
        checkTrain(train);
        return state.trains[train].timesPassed;
    }

    // ---- parcels ----

    public int origin(int parcel) throws IndexOutOfBoundsException {
        checkParcel(parcel);
        return state.parcels[parcel].from;
    }

    public int destination(int parcel) throws IndexOutOfBoundsException {
        checkParcel(parcel);
        return state.parcels[parcel].to;
    }

    public int priority(int parcel) throws IndexOutOfBoundsException {
        checkParcel(parcel);
        return state.parcels[parcel].rank;
    }

    public int parcelStation(int parcel) throws IndexOutOfBoundsException {
        checkParcel(parcel);
        return state.parcels[parcel].station;
    }

    public int parcelTrain(int parcel) throws IndexOutOfBoundsException {
        checkParcel(parcel);
        return state.parcels[parcel].train;
    }

    public int dropStation(int parcel) throws IndexOutOfBoundsException {
        checkParcel(parcel);
        return state.parcels[parcel].drop;
    }

    public int transfers(int parcel) throws IndexOutOfBoundsException {
        checkParcel(parcel);
        return state.parcels[parcel].timesTransferred;
    }

    public boolean isHeld(int parcel) throws IndexOutOfBoundsException {
        checkParcel(parcel);
        return state.parcels[parcel].isHeldAt(state.clock);
    }

    public int deliveryClock(int parcel) throws IndexOutOfBoundsException {
        checkParcel(parcel);
        return state.parcels[parcel].deliveredAt;
    }

    public int loadingObstacle(int train, int parcel) throws IndexOutOfBoundsException {
        checkTrain(train);
        checkParcel(parcel);
        return state.findObstacle(state.trains[train], state.parcels[parcel]);
    }

    // ---- sums ----

    public int deliveredCount() {
        return state.countDelivered();
    }

    public int parcelBalance() {
        int balance = state.parcelCount - state.countDelivered();
        for (int station = 0; station < state.stationCount; station++) {
            balance -= state.countWaitingAt(station);
        }
        return balance - state.countCarried();
    }

    public int loadingBalance() {
        return state.timesLoaded - state.timesUnloaded - state.countCarried();
    }

    public double meanDeliveryClock() {
        int count = state.countDelivered();
        if (count == 0) {
            return 0.0;
        }
        return (double) state.sumDeliveryClocks() / (double) count;
    }

    public float deliveredShare() {
        if (state.parcelCount == 0) {
            return 0.0f;
        }
        return (float) state.countDelivered() / (float) state.parcelCount;
    }

    // ---- questions about the future ----

    public int minutesToDelivery(int parcel) throws IndexOutOfBoundsException {
        checkParcel(parcel);
        future.copyFrom(state);
        for (int minutes = 0; minutes < FUTURE_LIMIT; minutes++) {
            if (future.parcels[parcel].isDelivered()) {
                return minutes;
            }
            future.passMinute();
        }
        return future.parcels[parcel].isDelivered() ? FUTURE_LIMIT : NONE;
    }

    public int minutesToFinish() {
        future.copyFrom(state);
        for (int minutes = 0; minutes < FUTURE_LIMIT; minutes++) {
            if (future.countDelivered() == future.parcelCount) {
                return minutes;
            }
            future.passMinute();
        }
        return future.countDelivered() == future.parcelCount ? FUTURE_LIMIT : NONE;
    }

    public int minutesToStop(int station) throws IndexOutOfBoundsException {
        checkStation(station);
        future.copyFrom(state);
        for (int minutes = 1; minutes <= FUTURE_LIMIT; minutes++) {
            future.passMinute();
            if (future.stations[station].stoppedAt == future.clock) {
                return minutes;
            }
        }
        return NONE;
    }

    public int trainStationAfter(int train, int minutes) throws IndexOutOfBoundsException, IllegalArgumentException {
        checkTrain(train);
        checkRange(minutes, 0, FUTURE_LIMIT);
        future.copyFrom(state);
        future.passMinutes(minutes);
        return future.trains[train].standsAt();
    }

    public int deliveredAfter(int minutes) throws IllegalArgumentException {
        checkRange(minutes, 0, FUTURE_LIMIT);
        future.copyFrom(state);
        future.passMinutes(minutes);
        return future.countDelivered();
    }

    public int deliveredIfClosed(int from, int to, int minutes)
            throws IndexOutOfBoundsException, IllegalArgumentException {
        checkStation(from);
        checkStation(to);
        int track = requireTrack(from, to);
        checkRange(minutes, 0, FUTURE_LIMIT);
        return countDeliveredWithout(track, minutes);
    }

    public int worstClosure() {
        int worst = NONE;
        int fewest = 0;
        for (int track = 0; track < state.trackCount; track++) {
            int delivered = countDeliveredWithout(track, CLOSURE_MINUTES);
            if (worst == NONE || delivered < fewest) {
                worst = track;
                fewest = delivered;
            }
        }
        return worst;
    }

    // ---- changes ----

    public int pass(int minutes) throws IllegalArgumentException {
        checkRange(minutes, 1, PASS_LIMIT);
        history.remember(state);
        int before = state.countDelivered();
        state.passMinutes(minutes);
        return state.countDelivered() - before;
    }

    public int addParcel(int origin, int destination, int priority)
            throws IndexOutOfBoundsException, IllegalArgumentException, IllegalStateException {
        checkStation(origin);
        checkStation(destination);
        if (origin == destination) {
            throw new IllegalArgumentException("both stations are the same");
        }
        checkRange(priority, 1, PRIORITY_LIMIT);
        if (state.parcelCount >= PARCEL_LIMIT) {
            throw new IllegalStateException("there are 12 parcels");
        }
        history.remember(state);
        state.makeParcel(origin, destination, priority);
        return state.parcelCount - 1;
    }

    public boolean setTrackOpen(int from, int to, boolean isOpen)
            throws IndexOutOfBoundsException, IllegalArgumentException {
        checkStation(from);
        checkStation(to);
        int track = requireTrack(from, to);
        boolean before = state.tracks[track].isOpen;
        history.remember(state);
        state.openTrack(track, isOpen);
        return before;
    }

    public int setPriority(int parcel, int priority) throws IndexOutOfBoundsException, IllegalArgumentException {
        checkParcel(parcel);
        checkRange(priority, 1, PRIORITY_LIMIT);
        int before = state.parcels[parcel].rank;
        history.remember(state);
        state.parcels[parcel].rank = priority;
        return before;
    }

    public int setInspection(int station, int minutes) throws IndexOutOfBoundsException, IllegalArgumentException {
        checkStation(station);
        checkRange(minutes, 0, INSPECTION_LIMIT);
        int before = state.stations[station].inspection;
        history.remember(state);
        state.stations[station].inspection = minutes;
        return before;
    }

    public int withdraw(int parcel) throws IndexOutOfBoundsException, IllegalStateException {
        checkParcel(parcel);
        Parcel withdrawn = state.parcels[parcel];
        if (withdrawn.station == NONE) {
            throw new IllegalStateException("the parcel does not wait");
        }
        history.remember(state);
        withdrawn.returnToSender(state.clock);
        return withdrawn.isDelivered() ? NONE : withdrawn.to;
    }

    // ---- output ----

    public int writeTrains() {
        output.length = 0;
        for (int train = 0; train < state.trainCount; train++) {
            if (train > 0) {
                output.put(' ');
            }
            putTrain(state.trains[train]);
            output.put(':');
            output.put('0' + state.countCarriedBy(train));
        }
        return output.length;
    }

    public int writeParcels() {
        output.length = 0;
        for (int parcel = 0; parcel < state.parcelCount; parcel++) {
            if (parcel > 0) {
                output.put(' ');
            }
            putParcel(state.parcels[parcel]);
        }
        return output.length;
    }

    public int outputByte(int position) throws NoSuchElementException {
        if (position < 0 || position >= output.length) {
            throw new NoSuchElementException("the output has no such position");
        }
        return output.bytes[position];
    }

    // ---- slots and undo ----

    public int save(int slot) throws IndexOutOfBoundsException {
        checkSlot(slot);
        slots[slot].copyFrom(state);
        slotFilled[slot] = true;
        return state.clock;
    }

    public int restore(int slot) throws IndexOutOfBoundsException, IllegalStateException {
        checkSlot(slot);
        if (!slotFilled[slot]) {
            throw new IllegalStateException("the slot is empty");
        }
        history.remember(state);
        state.copyFrom(slots[slot]);
        return state.clock;
    }

    public int undo() throws IllegalStateException {
        if (history.count == 0) {
            throw new IllegalStateException("no call is remembered");
        }
        history.takeBack(state);
        return history.count;
    }

    public int undoDepth() {
        return history.count;
    }

    // ---- helpers of the face ----

    private void checkStation(int station) {
        if (station < 0 || station >= state.stationCount) {
            throw new IndexOutOfBoundsException("no such station");
        }
    }

    private void checkTrain(int train) {
        if (train < 0 || train >= state.trainCount) {
            throw new IndexOutOfBoundsException("no such train");
        }
    }

    private void checkParcel(int parcel) {
        if (parcel < 0 || parcel >= state.parcelCount) {
            throw new IndexOutOfBoundsException("no such parcel");
        }
    }

    private static void checkSlot(int slot) {
        if (slot < 0 || slot >= SLOT_COUNT) {
            throw new IndexOutOfBoundsException("no such slot");
        }
    }

    private static void checkRange(int value, int least, int greatest) {
        if (value < least || value > greatest) {
            throw new IllegalArgumentException("a number is out of range");
        }
    }

    private int requireTrack(int from, int to) {
        int track = state.findTrack(from, to);
        if (track == NONE) {
            throw new IllegalArgumentException("no track between the stations");
        }
        return track;
    }

    private int countDeliveredWithout(int track, int minutes) {
        future.copyFrom(state);
        future.openTrack(track, false);
        for (int minute = 0; minute < minutes; minute++) {
            future.passMinute();
        }
        return future.countDelivered();
    }

    private void putTrain(Train train) {
        output.putName(state.nameOf(train.stationAhead(0)));
        if (!train.isStanding()) {
            output.put('>');
            output.putName(state.nameOf(train.stationAhead(1)));
        }
    }

    private void putParcel(Parcel parcel) {
        if (parcel.isDelivered()) {
            output.put('=');
        } else if (parcel.train != NONE) {
            output.put('#');
            output.put('0' + parcel.train);
        } else {
            output.put('@');
            output.putName(state.nameOf(parcel.station));
        }
    }

    private static final class Station {
        // The letters as bytes, the last one in the lowest byte; 0 is no name.
        int name;
        boolean isRequest;
        int inspection;
        // The latest clock at which a train stopped here on arrival; NONE if none did.
        int stoppedAt;

        void copyFrom(Station other) {
            name = other.name;
            isRequest = other.isRequest;
            inspection = other.inspection;
            stoppedAt = other.stoppedAt;
        }
    }

    private static final class Track {
        int from;
        int to;
        int minutes;
        boolean isOpen;

        void copyFrom(Track other) {
            from = other.from;
            to = other.to;
            minutes = other.minutes;
            isOpen = other.isOpen;
        }

        boolean connects(int one, int another) {
            return from == one && to == another || from == another && to == one;
        }
    }

    private static final class Train {
        final int number;
        int room;
        final int[] stops = new int[ROUTE_LIMIT];
        int stopCount;
        // An index of the route; while the train travels, that of the station that it left.
        int position;
        boolean goesForward;
        // 0 while the train stands.
        int minutesLeft;
        int minutesDelayed;
        int timesStopped;
        int timesPassed;

        Train(int ownNumber) {
            number = ownNumber;
        }

        void copyFrom(Train other) {
            room = other.room;
            for (int i = 0; i < ROUTE_LIMIT; i++) {
                stops[i] = other.stops[i];
            }
            stopCount = other.stopCount;
            position = other.position;
            goesForward = other.goesForward;
            minutesLeft = other.minutesLeft;
            minutesDelayed = other.minutesDelayed;
            timesStopped = other.timesStopped;
            timesPassed = other.timesPassed;
        }

        boolean isStanding() {
            return minutesLeft == 0;
        }

        int stationAt(int index) {
            return index >= 0 && index < stopCount && index < stops.length ? stops[index] : NONE;
        }

        // Tests its index itself: stationAt would be one call deeper, and this is the deepest place of all.
        int stationAhead(int steps) {
            int index = goesForward ? position + steps : position - steps;
            return index >= 0 && index < stopCount && index < stops.length ? stops[index] : NONE;
        }

        int standsAt() {
            return isStanding() ? stationAhead(0) : NONE;
        }

        boolean isAtEnd() {
            return position <= 0 || position >= stopCount - 1;
        }

        void reachNextStop() {
            position = goesForward ? position + 1 : position - 1;
            if (isAtEnd()) {
                goesForward = position <= 0;
            }
        }
    }

    private static final class Parcel {
        final int number;
        int from;
        int to;
        int rank;
        // Exactly one of station, train and deliveredAt is not NONE.
        int station;
        int train;
        int deliveredAt;
        int drop;
        int timesTransferred;
        int heldUntil;

        Parcel(int ownNumber) {
            number = ownNumber;
        }

        void copyFrom(Parcel other) {
            from = other.from;
            to = other.to;
            rank = other.rank;
            station = other.station;
            train = other.train;
            deliveredAt = other.deliveredAt;
            drop = other.drop;
            timesTransferred = other.timesTransferred;
            heldUntil = other.heldUntil;
        }

        boolean isDelivered() {
            return deliveredAt != NONE;
        }

        boolean isHeldAt(int clock) {
            return station != NONE && clock < heldUntil;
        }

        boolean isReadyAt(int place, int clock) {
            return station != NONE && station == place && clock >= heldUntil;
        }

        boolean isConsideredBefore(Parcel other) {
            return rank > other.rank || rank == other.rank && number < other.number;
        }

        void board(int carrier, int dropStation) {
            station = NONE;
            train = carrier;
            drop = dropStation;
        }

        void deliver(int clock) {
            station = NONE;
            train = NONE;
            drop = NONE;
            deliveredAt = clock;
        }

        void transferTo(int place, int holdEnd) {
            station = place;
            train = NONE;
            drop = NONE;
            timesTransferred++;
            heldUntil = holdEnd;
        }

        void returnToSender(int clock) {
            if (station == from) {
                deliver(clock);
                return;
            }
            to = from;
            from = station;
            heldUntil = 0;
        }
    }

    /** All that undo and the slots keep. */
    private static final class State {
        final Station[] stations = new Station[STATION_LIMIT];
        final Track[] tracks = new Track[TRACK_LIMIT];
        final Train[] trains = new Train[TRAIN_LIMIT];
        final Parcel[] parcels = new Parcel[PARCEL_LIMIT];
        // Kept beside the tracks because the trains ask for distances far more often than a track changes.
        final int[] distances = new int[STATION_LIMIT * STATION_LIMIT];
        int stationCount;
        int trackCount;
        int trainCount;
        int parcelCount;
        int clock;
        int timesLoaded;
        int timesUnloaded;

        State() {
            for (int i = 0; i < stations.length; i++) {
                stations[i] = new Station();
            }
            for (int i = 0; i < tracks.length; i++) {
                tracks[i] = new Track();
            }
            for (int i = 0; i < trains.length; i++) {
                trains[i] = new Train(i);
            }
            for (int i = 0; i < parcels.length; i++) {
                parcels[i] = new Parcel(i);
            }
        }

        void copyFrom(State other) {
            for (int i = 0; i < STATION_LIMIT; i++) {
                stations[i].copyFrom(other.stations[i]);
            }
            for (int i = 0; i < TRACK_LIMIT; i++) {
                tracks[i].copyFrom(other.tracks[i]);
            }
            for (int i = 0; i < TRAIN_LIMIT; i++) {
                trains[i].copyFrom(other.trains[i]);
            }
            for (int i = 0; i < PARCEL_LIMIT; i++) {
                parcels[i].copyFrom(other.parcels[i]);
            }
            for (int i = 0; i < STATION_LIMIT * STATION_LIMIT; i++) {
                distances[i] = other.distances[i];
            }
            stationCount = other.stationCount;
            trackCount = other.trackCount;
            trainCount = other.trainCount;
            parcelCount = other.parcelCount;
            clock = other.clock;
            timesLoaded = other.timesLoaded;
            timesUnloaded = other.timesUnloaded;
        }

        // ---- making ----

        void clear() {
            stationCount = 0;
            trackCount = 0;
            trainCount = 0;
            parcelCount = 0;
            clock = 0;
            timesLoaded = 0;
            timesUnloaded = 0;
            measureDistances();
        }

        void makeStation(int name, boolean isRequest) {
            if (stationCount >= STATION_LIMIT) {
                return;
            }
            Station station = stations[stationCount];
            station.name = name;
            station.isRequest = isRequest;
            station.inspection = 0;
            station.stoppedAt = NONE;
            stationCount++;
        }

        void makeTrack(int from, int to, int minutes) {
            if (trackCount >= TRACK_LIMIT) {
                return;
            }
            Track track = tracks[trackCount];
            track.from = from;
            track.to = to;
            track.minutes = minutes;
            track.isOpen = true;
            trackCount++;
            measureDistances();
        }

        void makeTrain(int capacity, int[] route, int routeLength) {
            if (trainCount >= TRAIN_LIMIT) {
                return;
            }
            Train train = trains[trainCount];
            train.room = capacity;
            train.stopCount = 0;
            for (int i = 0; i < routeLength && i < route.length && i < ROUTE_LIMIT; i++) {
                train.stops[i] = route[i];
                train.stopCount++;
            }
            train.position = 0;
            train.goesForward = true;
            train.minutesLeft = 0;
            train.minutesDelayed = 0;
            train.timesStopped = 0;
            train.timesPassed = 0;
            trainCount++;
        }

        void makeParcel(int from, int to, int rank) {
            if (parcelCount >= PARCEL_LIMIT) {
                return;
            }
            Parcel parcel = parcels[parcelCount];
            parcel.from = from;
            parcel.to = to;
            parcel.rank = rank;
            parcel.station = from;
            parcel.train = NONE;
            parcel.deliveredAt = NONE;
            parcel.drop = NONE;
            parcel.timesTransferred = 0;
            parcel.heldUntil = 0;
            parcelCount++;
        }

        void openTrack(int track, boolean isOpen) {
            if (track < 0 || track >= trackCount) {
                return;
            }
            tracks[track].isOpen = isOpen;
            measureDistances();
        }

        void setInspectionOf(int station, int minutes) {
            if (station >= 0 && station < stationCount) {
                stations[station].inspection = minutes;
            }
        }

        // ---- stations, tracks and distances ----

        int findStation(int name) {
            for (int station = 0; station < stationCount; station++) {
                if (stations[station].name == name) {
                    return station;
                }
            }
            return NONE;
        }

        int nameOf(int station) {
            return station >= 0 && station < stationCount ? stations[station].name : 0;
        }

        int findTrack(int from, int to) {
            for (int track = 0; track < trackCount; track++) {
                if (tracks[track].connects(from, to)) {
                    return track;
                }
            }
            return NONE;
        }

        int distanceBetween(int from, int to) {
            if (from < 0 || from >= STATION_LIMIT || to < 0 || to >= STATION_LIMIT) {
                return FAR;
            }
            return distances[from * STATION_LIMIT + to];
        }

        void measureDistances() {
            for (int from = 0; from < STATION_LIMIT; from++) {
                for (int to = 0; to < STATION_LIMIT; to++) {
                    distances[from * STATION_LIMIT + to] = from == to ? 0 : FAR;
                }
            }
            for (int track = 0; track < trackCount; track++) {
                if (tracks[track].isOpen) {
                    shorten(tracks[track].from, tracks[track].to, tracks[track].minutes);
                    shorten(tracks[track].to, tracks[track].from, tracks[track].minutes);
                }
            }
            for (int via = 0; via < stationCount; via++) {
                for (int from = 0; from < stationCount; from++) {
                    for (int to = 0; to < stationCount; to++) {
                        shorten(from, to, distanceBetween(from, via) + distanceBetween(via, to));
                    }
                }
            }
        }

        private void shorten(int from, int to, int minutes) {
            int place = from * STATION_LIMIT + to;
            if (place >= 0 && place < distances.length && minutes < distances[place]) {
                distances[place] = minutes;
            }
        }

        // ---- parcels ----

        int countWaitingAt(int station) {
            int count = 0;
            for (int parcel = 0; parcel < parcelCount; parcel++) {
                if (parcels[parcel].station == station) {
                    count++;
                }
            }
            return count;
        }

        int countCarriedBy(int train) {
            int count = 0;
            for (int parcel = 0; parcel < parcelCount; parcel++) {
                if (parcels[parcel].train == train) {
                    count++;
                }
            }
            return count;
        }

        int countCarried() {
            int count = 0;
            for (int train = 0; train < trainCount; train++) {
                count += countCarriedBy(train);
            }
            return count;
        }

        int countDelivered() {
            int count = 0;
            for (int parcel = 0; parcel < parcelCount; parcel++) {
                if (parcels[parcel].isDelivered()) {
                    count++;
                }
            }
            return count;
        }

        int sumDeliveryClocks() {
            int sum = 0;
            for (int parcel = 0; parcel < parcelCount; parcel++) {
                if (parcels[parcel].isDelivered()) {
                    sum += parcels[parcel].deliveredAt;
                }
            }
            return sum;
        }

        int findWaiting(int station, int index) {
            for (int i = 0; i < parcelCount; i++) {
                if (parcels[i].station == station && countWaitingBefore(parcels[i]) == index) {
                    return i;
                }
            }
            return NONE;
        }

        private int countWaitingBefore(Parcel chosen) {
            int count = 0;
            for (int i = 0; i < parcelCount; i++) {
                if (parcels[i].station == chosen.station && parcels[i].isConsideredBefore(chosen)) {
                    count++;
                }
            }
            return count;
        }

        int findCarried(int train, int index) {
            int passed = 0;
            for (int parcel = 0; parcel < parcelCount; parcel++) {
                if (parcels[parcel].train == train) {
                    if (passed == index) {
                        return parcel;
                    }
                    passed++;
                }
            }
            return NONE;
        }

        // ---- loading ----

        int findDrop(Train train, int destination) {
            int drop = NONE;
            int nearest = distanceBetween(train.stationAhead(0), destination);
            for (int steps = 1; steps < ROUTE_LIMIT; steps++) {
                int station = train.stationAhead(steps);
                int minutes = distanceBetween(station, destination);
                if (minutes < nearest) {
                    drop = station;
                    nearest = minutes;
                }
            }
            return drop;
        }

        /** The parcel that the train would load first; null if it would load none. */
        private Parcel findNextToLoad(Train train) {
            if (countCarriedBy(train.number) >= train.room) {
                return null;
            }
            int place = train.stationAhead(0);
            Parcel best = null;
            for (int i = 0; i < parcelCount; i++) {
                Parcel parcel = parcels[i];
                if (parcel.isReadyAt(place, clock)
                        && (best == null || parcel.isConsideredBefore(best))
                        && findDrop(train, parcel.to) != NONE) {
                    best = parcel;
                }
            }
            return best;
        }

        int findObstacle(Train train, Parcel chosen) {
            int place = train.standsAt();
            if (place == NONE || chosen.station != place) {
                return 1;
            }
            if (chosen.isHeldAt(clock)) {
                return 2;
            }
            if (findDrop(train, chosen.to) == NONE) {
                return 3;
            }
            int carried = countCarriedBy(train.number);
            for (int i = 0; i < parcelCount; i++) {
                Parcel parcel = parcels[i];
                if (parcel.isReadyAt(place, clock) && parcel.isConsideredBefore(chosen)
                        && findDrop(train, parcel.to) != NONE) {
                    carried++;
                }
            }
            return carried < train.room ? 0 : 4;
        }

        // ---- minutes ----

        void passMinutes(int minutes) {
            for (int minute = 0; minute < minutes; minute++) {
                passMinute();
            }
        }

        void passMinute() {
            clock++;
            for (int i = 0; i < trainCount; i++) {
                Train train = trains[i];
                if (train.isStanding()) {
                    loadTrain(train);
                    depart(train);
                } else {
                    train.minutesLeft--;
                    if (train.isStanding()) {
                        arrive(train);
                    }
                }
            }
        }

        private void loadTrain(Train train) {
            for (int count = 0; count < CAPACITY_LIMIT; count++) {
                Parcel parcel = findNextToLoad(train);
                if (parcel == null) {
                    return;
                }
                parcel.board(train.number, findDrop(train, parcel.to));
                timesLoaded++;
            }
        }

        private void depart(Train train) {
            int track = findTrack(train.stationAhead(0), train.stationAhead(1));
            if (track != NONE && tracks[track].isOpen) {
                train.minutesLeft = tracks[track].minutes;
            } else {
                train.minutesDelayed++;
            }
        }

        private void arrive(Train train) {
            train.reachNextStop();
            int place = train.stationAhead(0);
            if (place < 0 || place >= stationCount) {
                return;
            }
            if (train.isAtEnd() || !stations[place].isRequest || isDropOf(train, place)
                    || findNextToLoad(train) != null) {
                train.timesStopped++;
                stations[place].stoppedAt = clock;
                unload(train, place);
            } else {
                train.timesPassed++;
                depart(train);
            }
        }

        private boolean isDropOf(Train train, int place) {
            for (int i = 0; i < parcelCount; i++) {
                if (parcels[i].train == train.number && parcels[i].drop == place) {
                    return true;
                }
            }
            return false;
        }

        private void unload(Train train, int place) {
            if (place < 0 || place >= stationCount) {
                return;
            }
            int holdEnd = clock + stations[place].inspection;
            for (int i = 0; i < parcelCount; i++) {
                Parcel parcel = parcels[i];
                if (parcel.train != train.number || parcel.drop != place) {
                    continue;
                }
                timesUnloaded++;
                if (parcel.to == place) {
                    parcel.deliver(clock);
                } else {
                    parcel.transferTo(place, holdEnd);
                }
            }
        }
    }

    /** The states before the latest undoable calls, in a ring. */
    private static final class History {
        final State[] states = new State[UNDO_LIMIT];
        int next;
        int count;

        History() {
            for (int i = 0; i < states.length; i++) {
                states[i] = new State();
            }
        }

        void remember(State state) {
            if (next < 0 || next >= UNDO_LIMIT) {
                return;
            }
            states[next].copyFrom(state);
            next = next == UNDO_LIMIT - 1 ? 0 : next + 1;
            count = count == UNDO_LIMIT ? UNDO_LIMIT : count + 1;
        }

        void takeBack(State state) {
            int latest = next == 0 ? UNDO_LIMIT - 1 : next - 1;
            if (count == 0 || latest < 0 || latest >= UNDO_LIMIT) {
                return;
            }
            state.copyFrom(states[latest]);
            next = latest;
            count--;
        }
    }

    /** The input buffer and the token at which the parser reads it. */
    private static final class Tokens {
        static final int END = 0;
        static final int WORD = 1;
        static final int NUMBER = 2;
        static final int SEMICOLON = 3;
        static final int OTHER = 4;
        // Greater than every number that a statement allows.
        static final int GREAT_NUMBER = 1000;

        final byte[] text = new byte[INPUT_LIMIT];
        int length;
        int kind;
        int start;
        int end;

        void appendByte(int value) {
            if (length >= 0 && length < text.length) {
                text[length] = (byte) value;
                length++;
            }
        }

        void appendFourBytes(int value) {
            appendByte(value >>> 24);
            appendByte(value >>> 16);
            appendByte(value >>> 8);
            appendByte(value);
        }

        void appendText(String added) {
            for (int i = 0; i < added.length(); i++) {
                appendByte(added.charAt(i));
            }
        }

        void begin() {
            end = 0;
            advance();
        }

        void advance() {
            start = end;
            while (start < length && isBlank(byteAt(start))) {
                start++;
            }
            int first = byteAt(start);
            if (start >= length) {
                kind = END;
                end = length;
            } else if (first >= 'a' && first <= 'z') {
                kind = WORD;
                end = findRunEnd('a', 'z');
            } else if (first >= '0' && first <= '9') {
                kind = NUMBER;
                end = findRunEnd('0', '9');
            } else {
                kind = first == ';' ? SEMICOLON : OTHER;
                end = start + 1;
            }
        }

        private static boolean isBlank(int value) {
            return value == ' ' || value == '\n';
        }

        private int byteAt(int position) {
            return position >= 0 && position < text.length ? text[position] & 255 : 0;
        }

        private int findRunEnd(int least, int greatest) {
            int position = start;
            while (position < length && byteAt(position) >= least && byteAt(position) <= greatest) {
                position++;
            }
            return position;
        }

        boolean isText(String expected) {
            if (end - start != expected.length()) {
                return false;
            }
            for (int i = 0; i < expected.length(); i++) {
                if (byteAt(start + i) != expected.charAt(i)) {
                    return false;
                }
            }
            return true;
        }

        /** The token as a station's name; 0, which no station has, if it is too long for one. */
        int packName() {
            if (end - start > NAME_LIMIT) {
                return 0;
            }
            int name = 0;
            for (int position = start; position < end; position++) {
                name = name << 8 | byteAt(position);
            }
            return name;
        }

        /** The token as a number; GREAT_NUMBER stands for all that are greater. */
        int readNumber() {
            int number = 0;
            for (int position = start; position < end; position++) {
                number = Math.min(GREAT_NUMBER, number * 10 + byteAt(position) - '0');
            }
            return number;
        }
    }

    /** Reads the input buffer into a state of its own, so that a text with an error leaves no trace. */
    private static final class Parser {
        static final int STOP = 1;
        static final int REQUEST = 2;
        static final int TRACK = 3;
        static final int TRAIN = 4;
        static final int PARCEL = 5;
        static final int INSPECT = 6;
        static final int CLOSE = 7;
        static final int RUN = 8;

        final Tokens tokens = new Tokens();
        final State result = new State();
        int errorCode;
        int errorPosition = NONE;
        int keyword;
        int name;
        int first;
        int second;
        int number;
        final int[] route = new int[ROUTE_LIMIT];
        int routeLength;

        void parse() {
            result.clear();
            errorCode = 0;
            errorPosition = NONE;
            tokens.begin();
            for (int i = 0; i < INPUT_LIMIT && errorCode == 0 && tokens.kind != Tokens.END; i++) {
                readStatement();
                int minutes = errorCode == 0 ? execute() : 0;
                for (int minute = 0; minute < minutes; minute++) {
                    result.passMinute();
                }
            }
            tokens.length = 0;
        }

        /** Only the first error counts, so reading may go on after it until the statement ends. */
        private void fail(int code) {
            if (errorCode == 0) {
                errorCode = code;
                errorPosition = tokens.start;
            }
        }

        private void readStatement() {
            keyword = takeKeyword();
            switch (keyword) {
                case STOP:
                case REQUEST:
                    name = takeNewName();
                    break;
                case TRACK:
                    first = takeStation();
                    second = takeSecondStation();
                    number = takeNumber(1, TRAVEL_LIMIT);
                    break;
                case TRAIN:
                    number = takeNumber(1, CAPACITY_LIMIT);
                    takeRoute();
                    break;
                case PARCEL:
                    first = takeStation();
                    second = takeSecondStation();
                    number = takeNumber(1, PRIORITY_LIMIT);
                    break;
                case INSPECT:
                    first = takeStation();
                    number = takeNumber(0, INSPECTION_LIMIT);
                    break;
                case CLOSE:
                    first = takeStation();
                    second = takeSecondStation();
                    break;
                case RUN:
                    number = takeNumber(0, PASS_LIMIT);
                    break;
                default:
                    break;
            }
            if (tokens.kind != Tokens.SEMICOLON) {
                fail(1);
            }
            tokens.advance();
        }

        /** Executes the statement that was read and returns the minutes that pass after it. */
        private int execute() {
            switch (keyword) {
                case STOP:
                case REQUEST:
                    result.makeStation(name, keyword == REQUEST);
                    break;
                case TRACK:
                    result.makeTrack(first, second, number);
                    break;
                case TRAIN:
                    result.makeTrain(number, route, routeLength);
                    break;
                case PARCEL:
                    result.makeParcel(first, second, number);
                    break;
                case INSPECT:
                    result.setInspectionOf(first, number);
                    break;
                case CLOSE:
                    result.openTrack(result.findTrack(first, second), false);
                    break;
                default:
                    break;
            }
            return keyword == RUN ? number : 0;
        }

        private int takeKeyword() {
            int found = findKeyword();
            if (found == NONE) {
                fail(1);
            } else if (isFull(found)) {
                fail(6);
            }
            tokens.advance();
            return found;
        }

        private int findKeyword() {
            if (tokens.isText("stop")) {
                return STOP;
            }
            if (tokens.isText("request")) {
                return REQUEST;
            }
            if (tokens.isText("track")) {
                return TRACK;
            }
            if (tokens.isText("train")) {
                return TRAIN;
            }
            if (tokens.isText("parcel")) {
                return PARCEL;
            }
            if (tokens.isText("inspect")) {
                return INSPECT;
            }
            if (tokens.isText("close")) {
                return CLOSE;
            }
            return tokens.isText("run") ? RUN : NONE;
        }

        private boolean isFull(int kind) {
            switch (kind) {
                case STOP:
                case REQUEST:
                    return result.stationCount >= STATION_LIMIT;
                case TRACK:
                    return result.trackCount >= TRACK_LIMIT;
                case TRAIN:
                    return result.trainCount >= TRAIN_LIMIT;
                case PARCEL:
                    return result.parcelCount >= PARCEL_LIMIT;
                default:
                    return false;
            }
        }

        private int takeNewName() {
            int packed = tokens.packName();
            if (tokens.kind != Tokens.WORD) {
                fail(1);
            } else if (packed == 0) {
                fail(2);
            } else if (result.findStation(packed) != NONE) {
                fail(3);
            }
            tokens.advance();
            return packed;
        }

        private int takeNumber(int least, int greatest) {
            int value = tokens.kind == Tokens.NUMBER ? tokens.readNumber() : NONE;
            if (tokens.kind != Tokens.NUMBER) {
                fail(1);
            } else if (value < least || value > greatest) {
                fail(2);
            }
            tokens.advance();
            return value;
        }

        private int takeStation() {
            int station = findNamedStation();
            tokens.advance();
            return station;
        }

        private int takeSecondStation() {
            int station = findNamedStation();
            boolean hasTrack = result.findTrack(first, station) != NONE;
            if (keyword == CLOSE ? !hasTrack : first == station || keyword == TRACK && hasTrack) {
                fail(5);
            }
            tokens.advance();
            return station;
        }

        private int findNamedStation() {
            int station = tokens.kind == Tokens.WORD ? result.findStation(tokens.packName()) : NONE;
            if (tokens.kind != Tokens.WORD) {
                fail(1);
            } else if (station == NONE) {
                fail(4);
            }
            return station;
        }

        private void takeRoute() {
            routeLength = 0;
            for (int i = 0; i <= ROUTE_LIMIT && errorCode == 0; i++) {
                if (i >= ROUTE_MINIMUM && tokens.kind == Tokens.SEMICOLON) {
                    return;
                }
                int station = findNamedStation();
                if (i > 0 && result.findTrack(route[i - 1], station) == NONE) {
                    fail(5);
                }
                if (i < ROUTE_LIMIT) {
                    route[i] = station;
                    routeLength = i + 1;
                } else {
                    fail(6);
                }
                tokens.advance();
            }
        }
    }

    private static final class Output {
        final byte[] bytes = new byte[OUTPUT_LIMIT];
        int length;

        void put(int value) {
            if (length >= 0 && length < bytes.length) {
                bytes[length] = (byte) value;
                length++;
            }
        }

        void putName(int name) {
            for (int shift = 24; shift >= 0; shift -= 8) {
                int letter = name >>> shift & 255;
                if (letter != 0) {
                    put(letter);
                }
            }
        }
    }
}

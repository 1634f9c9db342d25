import java.util.NoSuchElementException;

/** Promises 1 and 7 to 45: what the state answers, of the first state and of others, and wrong numbers. */
public final class QuestionTest {
    private interface Ask {
        double of(ParcelRailway railway, int number);
    }

    private static final Class<IndexOutOfBoundsException> NO_INDEX = IndexOutOfBoundsException.class;

    private static void wrongNumbers(int promise, String what, int count, Ask ask) {
        ParcelRailway x = new ParcelRailway();
        for (int number : new int[] {-1, count, count + 1, Integer.MIN_VALUE, Integer.MAX_VALUE}) {
            Check.fails(promise, what + " of " + number, NO_INDEX, () -> ask.of(x, number));
        }
        ParcelRailway empty = Check.loaded("");
        Check.fails(promise, what + " of 0 in an empty state", NO_INDEX, () -> ask.of(empty, 0));
    }

    private static void wrongStations() {
        wrongNumbers(12, "isRequestStop", 4, (x, n) -> x.isRequestStop(n) ? 1 : 0);
        wrongNumbers(13, "inspectionTime", 4, (x, n) -> x.inspectionTime(n));
        wrongNumbers(14, "waitingCount", 4, (x, n) -> x.waitingCount(n));
        wrongNumbers(15, "waitingParcel", 4, (x, n) -> x.waitingParcel(n, -1));
        wrongNumbers(16, "travelTime from", 4, (x, n) -> x.travelTime(n, 0));
        wrongNumbers(16, "travelTime to", 4, (x, n) -> x.travelTime(0, n));
        wrongNumbers(17, "isTrackOpen from", 4, (x, n) -> x.isTrackOpen(n, 0) ? 1 : 0);
        wrongNumbers(17, "isTrackOpen to", 4, (x, n) -> x.isTrackOpen(0, n) ? 1 : 0);
        wrongNumbers(18, "distance from", 4, (x, n) -> x.distance(n, 0));
        wrongNumbers(18, "distance to", 4, (x, n) -> x.distance(0, n));
        wrongNumbers(18, "distance of the same wrong station", 4, (x, n) -> x.distance(n, n));
    }

    private static void wrongTrains() {
        wrongNumbers(19, "capacity", 2, (x, n) -> x.capacity(n));
        wrongNumbers(20, "routeLength", 2, (x, n) -> x.routeLength(n));
        wrongNumbers(21, "routeStation", 2, (x, n) -> x.routeStation(n, -1));
        wrongNumbers(22, "carriedCount", 2, (x, n) -> x.carriedCount(n));
        wrongNumbers(23, "carriedParcel", 2, (x, n) -> x.carriedParcel(n, -1));
        wrongNumbers(24, "trainStation", 2, (x, n) -> x.trainStation(n));
        wrongNumbers(25, "nextStation", 2, (x, n) -> x.nextStation(n));
        wrongNumbers(26, "isForward", 2, (x, n) -> x.isForward(n) ? 1 : 0);
        wrongNumbers(27, "minutesToNext", 2, (x, n) -> x.minutesToNext(n));
        wrongNumbers(28, "delay", 2, (x, n) -> x.delay(n));
        wrongNumbers(29, "stopsMade", 2, (x, n) -> x.stopsMade(n));
        wrongNumbers(30, "stopsPassed", 2, (x, n) -> x.stopsPassed(n));
        wrongNumbers(40, "loadingObstacle of a train", 2, (x, n) -> x.loadingObstacle(n, 0));
    }

    private static void wrongParcels() {
        wrongNumbers(31, "origin", 4, (x, n) -> x.origin(n));
        wrongNumbers(32, "destination", 4, (x, n) -> x.destination(n));
        wrongNumbers(33, "priority", 4, (x, n) -> x.priority(n));
        wrongNumbers(34, "parcelStation", 4, (x, n) -> x.parcelStation(n));
        wrongNumbers(35, "parcelTrain", 4, (x, n) -> x.parcelTrain(n));
        wrongNumbers(36, "dropStation", 4, (x, n) -> x.dropStation(n));
        wrongNumbers(37, "transfers", 4, (x, n) -> x.transfers(n));
        wrongNumbers(38, "isHeld", 4, (x, n) -> x.isHeld(n) ? 1 : 0);
        wrongNumbers(39, "deliveryClock", 4, (x, n) -> x.deliveryClock(n));
        wrongNumbers(40, "loadingObstacle of a parcel", 4, (x, n) -> x.loadingObstacle(0, n));
    }

    private static void wrongIndexes() {
        ParcelRailway x = new ParcelRailway();
        Class<NoSuchElementException> none = NoSuchElementException.class;
        for (int index : new int[] {-1, 1, 12, Integer.MIN_VALUE, Integer.MAX_VALUE}) {
            Check.fails(15, "waitingParcel(1, " + index + ")", none, () -> x.waitingParcel(1, index));
        }
        Check.fails(15, "waitingParcel(0, 0) where none waits", none, () -> x.waitingParcel(0, 0));
        for (int index : new int[] {-1, 3, 6, Integer.MIN_VALUE, Integer.MAX_VALUE}) {
            Check.fails(21, "routeStation(0, " + index + ")", none, () -> x.routeStation(0, index));
        }
        Check.fails(21, "routeStation(1, 2)", none, () -> x.routeStation(1, 2));
        for (int index : new int[] {-1, 2, 4, Integer.MIN_VALUE, Integer.MAX_VALUE}) {
            Check.fails(23, "carriedParcel(0, " + index + ")", none, () -> x.carriedParcel(0, index));
        }
        Check.fails(23, "carriedParcel(1, 0) of an empty train", none, () -> x.carriedParcel(1, 0));
    }

    private static void row(int promise, String what, Ask ask, int... want) {
        ParcelRailway x = new ParcelRailway();
        for (int i = 0; i < want.length; i++) {
            int number = i;
            Check.is(promise, what + " of " + i + " in the first state", want[i], () -> ask.of(x, number));
        }
    }

    private static void firstState() {
        ParcelRailway x = new ParcelRailway();
        Check.is(1, "clock", 4, x::clock);
        Check.is(1, "stationCount", 4, x::stationCount);
        Check.is(1, "trackCount", 3, x::trackCount);
        Check.is(1, "trainCount", 2, x::trainCount);
        Check.is(1, "parcelCount", 4, x::parcelCount);
        Check.is(1, "errorCode", 0, x::errorCode);
        Check.is(1, "errorPosition", -1, x::errorPosition);
        Check.is(1, "undoDepth", 0, x::undoDepth);
        Check.fails(1, "outputByte(0)", NoSuchElementException.class, () -> x.outputByte(0));
        Check.fails(1, "restore(0)", IllegalStateException.class, () -> x.restore(0));
        Check.fails(1, "restore(1)", IllegalStateException.class, () -> x.restore(1));
        Check.fails(1, "truncateInput(1)", IllegalArgumentException.class, () -> x.truncateInput(1));
        row(12, "isRequestStop", (r, n) -> r.isRequestStop(n) ? 1 : 0, 0, 1, 0, 1);
        row(13, "inspectionTime", (r, n) -> r.inspectionTime(n), 0, 0, 2, 0);
        row(14, "waitingCount", (r, n) -> r.waitingCount(n), 0, 1, 1, 0);
        row(16, "travelTime from b", (r, n) -> r.travelTime(1, n), 2, -1, 3, -1);
        row(16, "travelTime to c", (r, n) -> r.travelTime(n, 2), -1, 3, -1, 1);
        row(17, "isTrackOpen from b", (r, n) -> r.isTrackOpen(1, n) ? 1 : 0, 1, 0, 1, 0);
        row(18, "distance from a", (r, n) -> r.distance(0, n), 0, 2, 5, 6);
        row(18, "distance to a", (r, n) -> r.distance(n, 0), 0, 2, 5, 6);
        row(19, "capacity", (r, n) -> r.capacity(n), 2, 1);
        row(20, "routeLength", (r, n) -> r.routeLength(n), 3, 2);
        row(21, "routeStation of train 0", (r, n) -> r.routeStation(0, n), 0, 1, 2);
        row(21, "routeStation of train 1", (r, n) -> r.routeStation(1, n), 3, 2);
        row(22, "carriedCount", (r, n) -> r.carriedCount(n), 2, 0);
        row(23, "carriedParcel", (r, n) -> r.carriedParcel(0, n), 0, 1);
        row(24, "trainStation", (r, n) -> r.trainStation(n), -1, 3);
        row(25, "nextStation", (r, n) -> r.nextStation(n), 2, 2);
        row(26, "isForward", (r, n) -> r.isForward(n) ? 1 : 0, 1, 1);
        row(27, "minutesToNext", (r, n) -> r.minutesToNext(n), 2, -1);
        row(28, "delay", (r, n) -> r.delay(n), 0, 0);
        row(29, "stopsMade", (r, n) -> r.stopsMade(n), 0, 2);
        row(30, "stopsPassed", (r, n) -> r.stopsPassed(n), 1, 0);
        row(31, "origin", (r, n) -> r.origin(n), 0, 0, 1, 3);
        row(32, "destination", (r, n) -> r.destination(n), 2, 3, 0, 1);
        row(33, "priority", (r, n) -> r.priority(n), 5, 7, 3, 1);
        row(34, "parcelStation", (r, n) -> r.parcelStation(n), -1, -1, 1, 2);
        row(35, "parcelTrain", (r, n) -> r.parcelTrain(n), 0, 0, -1, -1);
        row(36, "dropStation", (r, n) -> r.dropStation(n), 2, 2, -1, -1);
        row(37, "transfers", (r, n) -> r.transfers(n), 0, 0, 0, 1);
        row(38, "isHeld", (r, n) -> r.isHeld(n) ? 1 : 0, 0, 0, 0, 0);
        row(39, "deliveryClock", (r, n) -> r.deliveryClock(n), -1, -1, -1, -1);
    }

    private static void counts() {
        ParcelRailway x = Check.loaded("stop a;request b;stop c;stop d;stop e;track a b 3;track a c 4;train 1 a b;train 2 b a c;"
                + "train 3 a c;parcel a b 1;parcel c a 2;inspect e 9;close a c;run 1;");
        Check.is(7, "clock", 1, x::clock);
        Check.is(8, "stationCount", 5, x::stationCount);
        Check.is(9, "trackCount", 2, x::trackCount);
        Check.is(10, "trainCount", 3, x::trainCount);
        Check.is(11, "parcelCount", 2, x::parcelCount);
        Check.is(13, "inspectionTime(4)", 9, () -> x.inspectionTime(4));
        Check.is(16, "travelTime of a closed track", 4, () -> x.travelTime(2, 0));
        Check.holds(17, "isTrackOpen of a closed track", false, () -> x.isTrackOpen(2, 0));
        Check.holds(17, "isTrackOpen of the same station", false, () -> x.isTrackOpen(0, 0));
        Check.is(16, "travelTime of the same station", -1, () -> x.travelTime(1, 1));
        Check.is(18, "distance over a closed track", -1, () -> x.distance(1, 2));
        Check.is(18, "distance of a lonely station from itself", 0, () -> x.distance(3, 3));
        Check.is(18, "distance of a lonely station", -1, () -> x.distance(3, 4));
    }

    private static void distances() {
        // The direct track is longer than the way round it; closing the way round leaves the direct one.
        ParcelRailway x = Check.loaded("stop a;stop b;stop c;stop d;track a d 9;track a b 2;track b c 2;track c d 2;");
        Check.is(18, "distance over three tracks", 6, () -> x.distance(0, 3));
        x.setTrackOpen(2, 1, false);
        Check.is(18, "distance over the direct track", 9, () -> x.distance(3, 0));
        Check.is(18, "distance around", 13, () -> x.distance(1, 2));
        x.setTrackOpen(1, 2, true);
        Check.is(18, "distance after opening", 6, () -> x.distance(0, 3));
        x.undo();
        Check.is(18, "distance after undo", 9, () -> x.distance(0, 3));
        ParcelRailway chain = Check.loaded("stop h;stop g;stop f;stop e;stop d;stop c;stop b;stop a;track a b 9;track c d 9;"
                + "track e f 9;track g h 9;track b c 9;track d e 9;track f g 9;");
        Check.is(18, "the longest distance", 63, () -> chain.distance(7, 0));
        Check.is(18, "the longest distance", 63, () -> chain.distance(0, 7));
        Check.is(18, "a part of it", 27, () -> chain.distance(5, 2));
    }

    private static void sums() {
        ParcelRailway x = Check.loaded("stop a;stop b;stop c;track a b 2;track b c 5;train 2 a b;parcel a b 1;parcel a b 1;"
                + "parcel a b 1;parcel b c 1;");
        Check.is(41, "deliveredCount", 0, x::deliveredCount);
        Check.is(44, "meanDeliveryClock without any", 0.0, x::meanDeliveryClock);
        Check.is(45, "deliveredShare", 0.0f, x::deliveredShare);
        for (int minute = 0; minute < 14; minute++) {
            Check.is(42, "parcelBalance in minute " + minute, 0, x::parcelBalance);
            Check.is(43, "loadingBalance in minute " + minute, 0, x::loadingBalance);
            x.pass(1);
        }
        Check.is(39, "deliveryClock(0)", 3, () -> x.deliveryClock(0));
        Check.is(39, "deliveryClock(2)", 9, () -> x.deliveryClock(2));
        Check.is(41, "deliveredCount", 3, x::deliveredCount);
        Check.is(44, "meanDeliveryClock", 5.0, x::meanDeliveryClock);
        Check.is(45, "deliveredShare", 0.75f, x::deliveredShare);
        ParcelRailway y = Check.loaded("stop a;stop b;parcel a b 1;parcel b a 1;parcel a b 1;run 7;");
        y.withdraw(1);
        y.pass(3);
        y.withdraw(0);
        Check.is(44, "meanDeliveryClock of 7 and 10", 8.5, y::meanDeliveryClock);
        Check.is(45, "deliveredShare of two of three as a float", (double) (2.0f / 3.0f), y::deliveredShare);
        ParcelRailway third = Check.loaded("stop a;stop b;parcel a b 1;parcel b a 1;parcel a b 1;run 1;");
        third.withdraw(0);
        third.withdraw(1);
        third.pass(1);
        third.withdraw(2);
        Check.is(44, "meanDeliveryClock of 1, 1 and 2", 4.0 / 3.0, third::meanDeliveryClock);
        Check.is(45, "deliveredShare of all", 1.0f, third::deliveredShare);
        ParcelRailway none = Check.loaded("stop a;");
        Check.is(45, "deliveredShare without parcels", 0.0f, none::deliveredShare);
        Check.is(44, "meanDeliveryClock without parcels", 0.0, none::meanDeliveryClock);
        Check.is(41, "deliveredCount without parcels", 0, none::deliveredCount);
        Check.is(42, "parcelBalance without parcels", 0, none::parcelBalance);
        Check.is(43, "loadingBalance without parcels", 0, none::loadingBalance);
    }

    private static void obstacles() {
        ParcelRailway x = Check.loaded("stop a;stop b;stop c;track a b 1;track b c 1;train 2 b a;train 1 b c;inspect b 2;"
                + "train 1 a b;parcel a c 5;parcel b c 1;parcel b c 2;parcel b a 3;run 0;");
        int[][] want = {{1, 3, 3, 0}, {1, 4, 0, 3}, {0, 1, 1, 1}};
        for (int train = 0; train < 3; train++) {
            for (int parcel = 0; parcel < 4; parcel++) {
                int t = train;
                int p = parcel;
                Check.is(40, "loadingObstacle(" + t + ", " + p + ")", want[t][p], () -> x.loadingObstacle(t, p));
            }
        }
        x.pass(2);
        Check.is(34, "parcelStation(0)", 1, () -> x.parcelStation(0));
        Check.is(40, "held comes before no drop station", 2, () -> x.loadingObstacle(2, 0));
        Check.is(40, "not there comes before held", 1, () -> x.loadingObstacle(0, 0));
        x.pass(1);
        Check.is(40, "the train has left", 1, () -> x.loadingObstacle(2, 0));
    }

    public static void main(String[] args) {
        wrongStations();
        wrongTrains();
        wrongParcels();
        wrongIndexes();
        firstState();
        counts();
        distances();
        sums();
        obstacles();
        Check.finish("QuestionTest");
    }
}

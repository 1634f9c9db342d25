/** Promises 7 to 45: questions about the state. */
final class QuestionSentences extends Sentences {
    private static final String TWO = "stop a;stop b;track a b 1;";
    private static final String LINE = "stop a;stop b;stop c;track a b 1;track b c 1;";
    private static final String NO_STATION = "Throws `IndexOutOfBoundsException` if the station does not exist";
    private static final String NO_STATIONS = "Throws `IndexOutOfBoundsException` if one of the stations does not exist";
    private static final String NO_TRAIN = "Throws `IndexOutOfBoundsException` if the train does not exist";
    private static final String NO_PARCEL = "Throws `IndexOutOfBoundsException` if the parcel does not exist";
    /** The parcel goes from a by b to d; the train brings it back to a if the track b d closes and the track a d opens. */
    private static final String HELD_AT_ORIGIN = "stop a;stop b;stop d;track a b 1;track b d 1;track a d 1;close a d;"
            + "inspect a 9;train 1 a b;parcel a d 1;run 2;";
    private static final int[] WRONG_INDEXES = {-1, 12, 1000, Integer.MIN_VALUE, Integer.MAX_VALUE};

    static void tell() {
        stations();
        waiting();
        tracks();
        routes();
        carried();
        places();
        counts();
        parcels();
        parcelPlaces();
        holding();
        obstacles();
        sums();
    }

    private static void none(int promise, String sentence, Numbers.Kind kind, Numbers.Ask ask) {
        under("Promise " + promise);
        says(sentence, () -> Numbers.check(promise, kind, "promise " + promise, ask));
    }

    private static void noStation(int promise, Numbers.Ask ask) {
        none(promise, NO_STATION, Numbers.Kind.STATION, ask);
    }

    private static void noTrain(int promise, Numbers.Ask ask) {
        none(promise, NO_TRAIN, Numbers.Kind.TRAIN, ask);
    }

    private static void noParcel(int promise, Numbers.Ask ask) {
        none(promise, NO_PARCEL, Numbers.Kind.PARCEL, ask);
    }

    private static void stations() {
        noStation(12, (x, n) -> x.isRequestStop(n) ? 1 : 0);
        says("Returns whether the station is a request stop.", () -> {
            ParcelRailway x = loaded("stop a;request b;stop c;");
            holds("isRequestStop(0)", false, () -> x.isRequestStop(0));
            holds("isRequestStop(1)", true, () -> x.isRequestStop(1));
            holds("isRequestStop(2)", false, () -> x.isRequestStop(2));
        });
        noStation(13, (x, n) -> x.inspectionTime(n));
        noStation(14, (x, n) -> x.waitingCount(n));
        says("Returns the number of parcels that wait at the station.", () -> {
            ParcelRailway x = loaded(TWO + "train 4 a b;" + "parcel a b 1;".repeat(12));
            is("waitingCount of all", 12, () -> x.waitingCount(0));
            is("waitingCount of none", 0, () -> x.waitingCount(1));
            x.pass(1);
            is("waitingCount without those on the train", 8, () -> x.waitingCount(0));
            x.pass(1);
            is("waitingCount where they were delivered", 0, () -> x.waitingCount(1));
            ParcelRailway held = loaded(LINE + "inspect b 9;train 1 a b;parcel a c 1;run 2;");
            is("waitingCount of a held one", 1, () -> held.waitingCount(1));
        });
    }

    private static void waiting() {
        noStation(15, (x, n) -> x.waitingParcel(n, 0));
        says("an index, from 0", () -> {
            ParcelRailway x = loaded(TWO + "parcel b a 1;parcel a b 1;");
            is("waitingParcel(0, 0)", 1, () -> x.waitingParcel(0, 0));
            is("waitingParcel(1, 0)", 0, () -> x.waitingParcel(1, 0));
            fails("waitingParcel(0, -1)", NO_ELEMENT, () -> x.waitingParcel(0, -1));
        });
        says("Returns the parcel with this index in the order in which parcels are considered for loading, among all parcels that"
                + " wait at the station.", () -> {
            // Parcel 0 is held at b and parcel 4 has no drop station; both wait as the others do.
            ParcelRailway x = loaded(LINE + "inspect b 9;train 1 a b;parcel a c 5;run 2;parcel b c 1;parcel b c 9;parcel a c 9;"
                    + "stop d;parcel b d 5;parcel b a 5;");
            int[] order = {2, 0, 4, 5, 1};
            for (int index = 0; index < order.length; index++) {
                int i = index;
                is("waitingParcel(1, " + i + ")", order[i], () -> x.waitingParcel(1, i));
            }
            ParcelRailway twelve = loaded(TWO + "parcel a b 4;".repeat(12));
            for (int index = 0; index < 12; index++) {
                int i = index;
                is("waitingParcel(0, " + i + ") of twelve", i, () -> twelve.waitingParcel(0, i));
            }
        });
        says("Throws `NoSuchElementException` if there is no such index", () -> {
            ParcelRailway x = loaded(TWO + "parcel a b 1;parcel a b 2;");
            for (int index : WRONG_INDEXES) {
                fails("waitingParcel(0, " + index + ")", NO_ELEMENT, () -> x.waitingParcel(0, index));
            }
            fails("waitingParcel(0, 2) of two", NO_ELEMENT, () -> x.waitingParcel(0, 2));
            fails("waitingParcel(1, 0) of none", NO_ELEMENT, () -> x.waitingParcel(1, 0));
            ParcelRailway twelve = loaded(TWO + "parcel a b 4;".repeat(12));
            fails("waitingParcel(0, 12) of twelve", NO_ELEMENT, () -> twelve.waitingParcel(0, 12));
            ParcelRailway left = loaded(TWO + "train 1 a b;parcel a b 4;run 1;");
            fails("waitingParcel(0, 0) of one that has left", NO_ELEMENT, () -> left.waitingParcel(0, 0));
        });
    }

    private static void tracks() {
        under("Promise 16");
        says("NONE if there is no track.", () -> {
            ParcelRailway x = loaded(LINE + "close a b;");
            is("travelTime(0, 2)", -1, () -> x.travelTime(0, 2));
            is("travelTime(2, 0)", -1, () -> x.travelTime(2, 0));
            is("travelTime(1, 1)", -1, () -> x.travelTime(1, 1));
            is("travelTime of a closed track", 1, () -> x.travelTime(0, 1));
        });
        says(NO_STATIONS, () -> {
            Numbers.check(16, Numbers.Kind.STATION, "travelTime from", (x, n) -> x.travelTime(n, 0));
            Numbers.check(16, Numbers.Kind.STATION, "travelTime to", (x, n) -> x.travelTime(0, n));
            Numbers.check(16, Numbers.Kind.STATION, "travelTime of one", (x, n) -> x.travelTime(n, n));
        });
        under("Promise 17");
        says("Returns whether there is an open track between the stations.", () -> {
            ParcelRailway x = loaded(LINE + "close c b;");
            holds("isTrackOpen(0, 1)", true, () -> x.isTrackOpen(0, 1));
            holds("isTrackOpen(1, 0)", true, () -> x.isTrackOpen(1, 0));
            holds("isTrackOpen(1, 2) of a closed one", false, () -> x.isTrackOpen(1, 2));
            holds("isTrackOpen(0, 2) without a track", false, () -> x.isTrackOpen(0, 2));
            holds("isTrackOpen(0, 0)", false, () -> x.isTrackOpen(0, 0));
        });
        says(NO_STATIONS, () -> {
            Numbers.check(17, Numbers.Kind.STATION, "isTrackOpen from", (x, n) -> x.isTrackOpen(n, 0) ? 1 : 0);
            Numbers.check(17, Numbers.Kind.STATION, "isTrackOpen to", (x, n) -> x.isTrackOpen(0, n) ? 1 : 0);
            Numbers.check(17, Numbers.Kind.STATION, "isTrackOpen of one", (x, n) -> x.isTrackOpen(n, n) ? 1 : 0);
        });
        under("Promise 18");
        says("NONE if there is no distance.", () -> {
            ParcelRailway x = loaded(LINE + "close c b;stop d;");
            is("distance(0, 2)", -1, () -> x.distance(0, 2));
            is("distance(3, 0)", -1, () -> x.distance(3, 0));
            is("distance(0, 1)", 1, () -> x.distance(0, 1));
            is("distance(3, 3)", 0, () -> x.distance(3, 3));
            Check.load(x, "stop a;stop b;");
            is("distance(0, 1) of a text without tracks", -1, () -> x.distance(0, 1));
        });
        says(NO_STATIONS, () -> {
            Numbers.check(18, Numbers.Kind.STATION, "distance from", (x, n) -> x.distance(n, 0));
            Numbers.check(18, Numbers.Kind.STATION, "distance to", (x, n) -> x.distance(0, n));
            Numbers.check(18, Numbers.Kind.STATION, "distance of one", (x, n) -> x.distance(n, n));
        });
    }

    private static void routes() {
        noTrain(19, (x, n) -> x.capacity(n));
        noTrain(20, (x, n) -> x.routeLength(n));
        noTrain(21, (x, n) -> x.routeStation(n, 0));
        says("an index, from 0", () -> {
            ParcelRailway x = loaded(LINE + "train 1 c b a b;");
            int[] route = {2, 1, 0, 1};
            for (int index = 0; index < route.length; index++) {
                int i = index;
                is("routeStation(0, " + i + ")", route[i], () -> x.routeStation(0, i));
            }
            x.pass(4);
            is("routeStation(0, 0) while the train is elsewhere", 2, () -> x.routeStation(0, 0));
        });
        says("Throws `NoSuchElementException` if the route has no such index", () -> {
            ParcelRailway x = loaded(LINE + "train 1 a b c b a b;train 1 a b;");
            for (int index : WRONG_INDEXES) {
                fails("routeStation(0, " + index + ")", NO_ELEMENT, () -> x.routeStation(0, index));
            }
            fails("routeStation(0, 6) of six", NO_ELEMENT, () -> x.routeStation(0, 6));
            fails("routeStation(1, 2) of two", NO_ELEMENT, () -> x.routeStation(1, 2));
            Check.load(x, TWO + "train 1 a b a;");
            fails("routeStation(0, 3) of three", NO_ELEMENT, () -> x.routeStation(0, 3));
        });
    }

    private static void carried() {
        noTrain(22, (x, n) -> x.carriedCount(n));
        says("Returns the number of parcels on the train.", () -> {
            ParcelRailway x = loaded(TWO + "train 4 a b;train 1 a b;train 4 b a;" + "parcel a b 1;".repeat(6));
            is("carriedCount(0) before loading", 0, () -> x.carriedCount(0));
            x.pass(1);
            is("carriedCount(0)", 4, () -> x.carriedCount(0));
            is("carriedCount(1)", 1, () -> x.carriedCount(1));
            is("carriedCount(2)", 0, () -> x.carriedCount(2));
            x.pass(1);
            is("carriedCount(0) after unloading", 0, () -> x.carriedCount(0));
        });
        noTrain(23, (x, n) -> x.carriedParcel(n, 0));
        says("an index, from 0", () -> {
            ParcelRailway x = loaded(TWO + "train 1 a b;parcel b a 1;parcel a b 1;run 1;");
            is("carriedParcel(0, 0)", 1, () -> x.carriedParcel(0, 0));
            fails("carriedParcel(0, -1)", NO_ELEMENT, () -> x.carriedParcel(0, -1));
        });
        says("Returns the parcel with this index among the parcels on the train, by ascending number.", () -> {
            ParcelRailway x = loaded(TWO + "train 3 a b;train 1 a b;parcel a b 2;parcel b a 9;parcel a b 9;parcel a b 1;"
                    + "parcel a b 5;run 1;");
            int[] first = {0, 2, 4};
            for (int index = 0; index < 3; index++) {
                int i = index;
                is("carriedParcel(0, " + i + ")", first[i], () -> x.carriedParcel(0, i));
            }
            is("carriedParcel(1, 0)", 3, () -> x.carriedParcel(1, 0));
        });
        says("Throws `NoSuchElementException` if there is no such index", () -> {
            ParcelRailway x = loaded(TWO + "train 2 a b;train 1 b a;parcel a b 2;parcel a b 9;run 1;");
            for (int index : WRONG_INDEXES) {
                fails("carriedParcel(0, " + index + ")", NO_ELEMENT, () -> x.carriedParcel(0, index));
            }
            fails("carriedParcel(0, 2) of two", NO_ELEMENT, () -> x.carriedParcel(0, 2));
            fails("carriedParcel(1, 0) of none", NO_ELEMENT, () -> x.carriedParcel(1, 0));
            x.pass(1);
            fails("carriedParcel(0, 0) after unloading", NO_ELEMENT, () -> x.carriedParcel(0, 0));
        });
    }

    private static void places() {
        noTrain(24, (x, n) -> x.trainStation(n));
        says("NONE if it travels on a track.", () -> {
            ParcelRailway x = loaded("stop a;stop b;track a b 3;train 1 a b;");
            int[] places = {0, -1, -1, -1, 1, -1, -1, -1, 0};
            for (int minute = 0; minute < places.length; minute++) {
                int due = places[minute];
                is("trainStation(0) in minute " + minute, due, () -> x.trainStation(0));
                x.pass(1);
            }
        });
        noTrain(25, (x, n) -> x.nextStation(n));
        says("Returns the next station of its route in its current direction.", () -> {
            ParcelRailway x = loaded(LINE + "train 1 a b c;");
            int[] next = {1, 1, 2, 2, 1, 1, 0, 0, 1, 1};
            for (int minute = 0; minute < next.length; minute++) {
                int due = next[minute];
                is("nextStation(0) in minute " + minute, due, () -> x.nextStation(0));
                x.pass(1);
            }
        });
        noTrain(26, (x, n) -> x.isForward(n) ? 1 : 0);
        says("Returns whether its direction is forward.", () -> {
            ParcelRailway x = loaded(TWO + "train 1 a b;train 1 b a;");
            for (int minute = 0; minute < 9; minute++) {
                boolean due = minute % 4 < 2;
                holds("isForward(0) in minute " + minute, due, () -> x.isForward(0));
                holds("isForward(1) in minute " + minute, due, () -> x.isForward(1));
                x.pass(1);
            }
        });
        noTrain(27, (x, n) -> x.minutesToNext(n));
        says("Returns the number of minutes after which the train arrives at the next station if it travels on a track;", () -> {
            ParcelRailway x = loaded("stop a;stop b;track a b 9;train 1 a b;run 1;");
            for (int left = 9; left > 0; left--) {
                int due = left;
                is("minutesToNext(0)", due, () -> x.minutesToNext(0));
                is("trainStation(0)", -1, () -> x.trainStation(0));
                x.pass(1);
            }
            is("trainStation(0)", 1, () -> x.trainStation(0));
        });
        says("NONE if it stands at a station.", () -> {
            ParcelRailway x = loaded(TWO + "train 1 a b;");
            is("minutesToNext(0) at first", -1, () -> x.minutesToNext(0));
            x.pass(2);
            is("minutesToNext(0) at the end", -1, () -> x.minutesToNext(0));
            x.setTrackOpen(0, 1, false);
            x.pass(1);
            is("minutesToNext(0) of a train that cannot depart", -1, () -> x.minutesToNext(0));
        });
    }

    private static void counts() {
        noTrain(28, (x, n) -> x.delay(n));
        says("Returns its delay.", () -> {
            ParcelRailway x = loaded(LINE + "train 1 a b;train 1 c b;close a b;run 5;");
            is("delay(0)", 5, () -> x.delay(0));
            is("delay(1)", 0, () -> x.delay(1));
        });
        noTrain(29, (x, n) -> x.stopsMade(n));
        says("Returns how often the train stopped when it arrived at a station.", () -> {
            ParcelRailway x = loaded(TWO + "train 1 a b;train 1 a b;");
            is("stopsMade(0) at first, though the train stands", 0, () -> x.stopsMade(0));
            x.pass(2);
            is("stopsMade(0)", 1, () -> x.stopsMade(0));
            x.pass(58);
            is("stopsMade(1)", 30, () -> x.stopsMade(1));
        });
        noTrain(30, (x, n) -> x.stopsPassed(n));
        says("Returns how often the train passed when it arrived at a station.", () -> {
            ParcelRailway x = loaded("stop a;request b;stop c;track a b 1;track b c 1;train 1 a b c;");
            is("stopsPassed(0) at first", 0, () -> x.stopsPassed(0));
            x.pass(2);
            is("stopsPassed(0)", 1, () -> x.stopsPassed(0));
            x.pass(58);
            is("stopsPassed(0) after twenty trips of three minutes", 20, () -> x.stopsPassed(0));
        });
    }

    private static void parcels() {
        noParcel(31, (x, n) -> x.origin(n));
        noParcel(32, (x, n) -> x.destination(n));
        noParcel(33, (x, n) -> x.priority(n));
        noParcel(37, (x, n) -> x.transfers(n));
        says("Returns its number of transfers.", () -> {
            ParcelRailway x = loaded(LINE + "train 1 a b;train 1 b c;parcel a c 1;");
            is("transfers(0) at first", 0, () -> x.transfers(0));
            x.pass(1);
            is("transfers(0) on the train", 0, () -> x.transfers(0));
            x.pass(1);
            is("transfers(0) at b", 1, () -> x.transfers(0));
        });
    }

    private static void parcelPlaces() {
        String trip = LINE + "inspect b 3;train 1 a b;train 1 b c;parcel a c 1;";
        // Train 0 unloads it at b in minute 2; it is held until minute 5, in which train 1 takes it to c.
        noParcel(34, (x, n) -> x.parcelStation(n));
        says("NONE if it does not wait.", () -> {
            ParcelRailway x = loaded(trip);
            int[] due = {0, -1, 1, 1, 1, -1, -1, -1};
            for (int minute = 0; minute < due.length; minute++) {
                int station = due[minute];
                is("parcelStation(0) in minute " + minute, station, () -> x.parcelStation(0));
                x.pass(1);
            }
        });
        noParcel(35, (x, n) -> x.parcelTrain(n));
        says("NONE if no train carries it.", () -> {
            ParcelRailway x = loaded(trip);
            int[] due = {-1, 0, -1, -1, -1, 1, -1, -1};
            for (int minute = 0; minute < due.length; minute++) {
                int train = due[minute];
                is("parcelTrain(0) in minute " + minute, train, () -> x.parcelTrain(0));
                x.pass(1);
            }
        });
        noParcel(36, (x, n) -> x.dropStation(n));
        says("Returns the drop station that the parcel keeps while it is on a train;", () -> {
            ParcelRailway x = loaded(trip + "run 1;");
            is("dropStation(0)", 1, () -> x.dropStation(0));
            x.pass(4);
            is("dropStation(0) on the other train", 2, () -> x.dropStation(0));
            x.setTrackOpen(1, 2, false);
            is("dropStation(0) though the track is closed", 2, () -> x.dropStation(0));
            ParcelRailway kept = loaded("stop a;stop b;stop c;stop d;track a b 2;track b c 2;track c d 1;track b d 9;"
                    + "train 1 a b c;parcel a d 1;run 1;");
            kept.setTrackOpen(2, 3, false);
            is("dropStation(0) though another station is nearer now", 2, () -> kept.dropStation(0));
            kept.pass(2);
            is("dropStation(0) at that station", 2, () -> kept.dropStation(0));
        });
        says("NONE if it is not on a train.", () -> {
            ParcelRailway x = loaded(trip);
            int[] due = {-1, 1, -1, -1, -1, 2, -1, -1};
            for (int minute = 0; minute < due.length; minute++) {
                int station = due[minute];
                is("dropStation(0) in minute " + minute, station, () -> x.dropStation(0));
                x.pass(1);
            }
        });
        noParcel(39, (x, n) -> x.deliveryClock(n));
        says("NONE if it is not delivered.", () -> {
            ParcelRailway x = loaded(trip);
            for (int minute = 0; minute < 9; minute++) {
                int due = minute < 6 ? -1 : 6;
                is("deliveryClock(0) in minute " + minute, due, () -> x.deliveryClock(0));
                x.pass(1);
            }
        });
    }

    private static void holding() {
        noParcel(38, (x, n) -> x.isHeld(n) ? 1 : 0);
        says("Returns whether the parcel waits and is held at the current clock.", () -> {
            ParcelRailway x = loaded(LINE + "inspect b 3;train 1 a b;parcel a c 1;");
            boolean[] held = {false, false, true, true, true, false, false, false};
            for (int minute = 0; minute < held.length; minute++) {
                boolean due = held[minute];
                holds("isHeld(0) in minute " + minute, due, () -> x.isHeld(0));
                x.pass(1);
            }
            ParcelRailway withdrawn = loaded(HELD_AT_ORIGIN);
            withdrawn.setTrackOpen(1, 2, false);
            withdrawn.setTrackOpen(0, 2, true);
            withdrawn.pass(2);
            is("parcelStation(0): back at its origin, which is station 0", 0, () -> withdrawn.parcelStation(0));
            holds("isHeld(0) there", true, () -> withdrawn.isHeld(0));
            withdrawn.withdraw(0);
            holds("isHeld(0) of a delivered parcel", false, () -> withdrawn.isHeld(0));
            is("parcelStation(0) of a delivered parcel", -1, () -> withdrawn.parcelStation(0));
        });
    }

    private static void obstacles() {
        under("Promise 40");
        says("would not be loaded by a train if the train loaded now.", () -> {
            ParcelRailway x = loaded(LINE + "train 2 b c;train 1 b a;train 2 a b;parcel b c 5;parcel b a 7;parcel b c 4;parcel b c 6;"
                    + "parcel a c 1;parcel b a 8;parcel c a 9;");
            int[] due = {0, -1, -1, 0, 2, 1, -1};
            for (int parcel = 0; parcel < due.length; parcel++) {
                int p = parcel;
                for (int train = 0; train < 3; train++) {
                    int t = train;
                    holds("loadingObstacle(" + t + ", " + p + ") is 0", due[p] == t, () -> x.loadingObstacle(t, p) == 0);
                }
            }
            x.pass(1);
            for (int parcel = 0; parcel < due.length; parcel++) {
                int p = parcel;
                is("parcelTrain(" + p + ") one minute later", due[p], () -> x.parcelTrain(p));
            }
        });
        says("Returns 0 if it would be loaded;", () -> {
            ParcelRailway x = loaded(TWO + "train 2 a b;parcel a b 1;parcel a b 1;");
            is("loadingObstacle(0, 0)", 0, () -> x.loadingObstacle(0, 0));
            is("loadingObstacle(0, 1) of the last one with room", 0, () -> x.loadingObstacle(0, 1));
        });
        says("otherwise the first of these that applies:", () -> {
            // Parcel 0 is held at b, has no drop station for train 0, and train 1 has no room for it.
            ParcelRailway x = loaded(LINE + "inspect b 5;train 1 a b;parcel a c 1;run 2;train 1 b c;parcel b c 9;train 1 c b;");
            is("loadingObstacle(0, 0): held, and no drop station", 2, () -> x.loadingObstacle(0, 0));
            is("loadingObstacle(1, 0): held, and no room", 2, () -> x.loadingObstacle(1, 0));
            is("loadingObstacle(2, 0): not there, and held", 1, () -> x.loadingObstacle(2, 0));
            ParcelRailway y = loaded(LINE + "train 1 b a;parcel b a 9;parcel b c 1;");
            is("loadingObstacle(0, 1): no drop station, and no room", 3, () -> y.loadingObstacle(0, 1));
        });
        says("1 the train does not stand at the station at which the parcel waits", () -> {
            ParcelRailway x = loaded(LINE + "train 1 a b c;parcel b c 1;");
            is("loadingObstacle(0, 0) at another station", 1, () -> x.loadingObstacle(0, 0));
            x.pass(1);
            is("loadingObstacle(0, 0) on the way", 1, () -> x.loadingObstacle(0, 0));
            x.pass(1);
            is("loadingObstacle(0, 0) at b", 0, () -> x.loadingObstacle(0, 0));
            x.addParcel(1, 2, 1);
            x.pass(1);
            is("loadingObstacle(0, 1) of a train that has just left", 1, () -> x.loadingObstacle(0, 1));
        });
        says("(or the parcel does not wait)", () -> {
            ParcelRailway x = loaded(TWO + "train 1 a b;parcel a b 1;close a b;stop c;track a c 1;train 1 c a;run 1;");
            is("parcelTrain(0)", 0, () -> x.parcelTrain(0));
            is("trainStation(0)", 0, () -> x.trainStation(0));
            is("loadingObstacle(0, 0) of a parcel on this train", 1, () -> x.loadingObstacle(0, 0));
            ParcelRailway done = loaded(TWO + "train 1 a b;parcel a b 1;run 4;");
            is("loadingObstacle(0, 0) of a delivered parcel", 1, () -> done.loadingObstacle(0, 0));
        });
        says("2 the parcel is held", () -> {
            ParcelRailway x = loaded(LINE + "inspect b 3;train 1 a b;parcel a c 1;run 2;close a b;train 1 b c;");
            is("loadingObstacle(1, 0)", 2, () -> x.loadingObstacle(1, 0));
            x.setTrackOpen(1, 2, false);
            x.pass(2);
            is("loadingObstacle(1, 0) one minute before it is free", 2, () -> x.loadingObstacle(1, 0));
            x.withdraw(0);
            is("loadingObstacle(0, 0) when it is free", 0, () -> x.loadingObstacle(0, 0));
        });
        says("3 there is no drop station", () -> {
            ParcelRailway x = loaded(LINE + "train 1 b a;parcel b c 1;train 1 b c;");
            is("loadingObstacle(0, 0)", 3, () -> x.loadingObstacle(0, 0));
            is("loadingObstacle(1, 0)", 0, () -> x.loadingObstacle(1, 0));
        });
        says("4 the train has no room after the parcels that are considered before it.", () -> {
            ParcelRailway x = loaded(LINE + "train 2 b c;parcel b c 5;parcel b c 5;parcel b c 5;parcel b a 9;parcel b c 9;");
            int[] due = {0, 4, 4, 3, 0};
            for (int parcel = 0; parcel < due.length; parcel++) {
                int p = parcel;
                is("loadingObstacle(0, " + p + ")", due[p], () -> x.loadingObstacle(0, p));
            }
            ParcelRailway full = loaded(LINE + "train 1 a b c;parcel a c 1;run 2;parcel b c 9;");
            is("loadingObstacle(0, 1) of a full train", 4, () -> full.loadingObstacle(0, 1));
            ParcelRailway held = loaded(LINE + "inspect b 9;train 1 a b;parcel a c 9;run 2;train 1 b c;parcel b c 1;");
            is("loadingObstacle(1, 1) behind a held parcel", 0, () -> held.loadingObstacle(1, 1));
        });
        says("Throws `IndexOutOfBoundsException` if the train or the parcel does not exist", () -> {
            Numbers.check(40, Numbers.Kind.TRAIN, "loadingObstacle of a train", (x, n) -> x.loadingObstacle(n, 0));
            Numbers.check(40, Numbers.Kind.PARCEL, "loadingObstacle of a parcel", (x, n) -> x.loadingObstacle(0, n));
        });
    }

    private static void sums() {
        under("Promise 41");
        says("Returns the number of delivered parcels.", () -> {
            is("deliveredCount without parcels", 0, () -> loaded(TWO).deliveredCount());
            ParcelRailway x = loaded(TWO + "train 4 a b;" + "parcel a b 1;".repeat(12));
            is("deliveredCount of none", 0, x::deliveredCount);
            x.pass(2);
            is("deliveredCount of four", 4, x::deliveredCount);
            x.pass(8);
            is("deliveredCount of all", 12, x::deliveredCount);
        });
        under("Promise 42");
        says("this is always 0.", () -> everyMinute((x, minute) -> x.parcelBalance()));
        says("Returns the number of parcels minus those that wait, those on trains, as counted train by train, and those that are"
                + " delivered;", () -> {
            is("parcelBalance without parcels", 0, () -> loaded("").parcelBalance());
            is("parcelBalance of parcels that wait", 0, () -> loaded(TWO + "parcel a b 1;parcel a b 1;").parcelBalance());
            is("parcelBalance of parcels on a train", 0, () -> loaded(TWO + "train 2 a b;parcel a b 1;parcel a b 1;run 1;")
                    .parcelBalance());
            is("parcelBalance of delivered parcels", 0, () -> loaded(TWO + "train 2 a b;parcel a b 1;parcel a b 1;run 2;")
                    .parcelBalance());
        });
        under("Promise 43");
        says("this is always 0.", () -> everyMinute((x, minute) -> x.loadingBalance()));
        says("since the latest load", () -> {
            ParcelRailway x = loaded(TWO + "train 2 a b;parcel a b 1;parcel a b 1;run 1;");
            x.save(0);
            Check.load(x, TWO + "train 1 a b;parcel a b 1;run 1;");
            is("loadingBalance after a load", 0, x::loadingBalance);
            x.pass(1);
            is("loadingBalance", 0, x::loadingBalance);
            x.undo();
            is("loadingBalance after undo", 0, x::loadingBalance);
            x.restore(0);
            is("loadingBalance after restore", 0, x::loadingBalance);
            x.undo();
            x.undo();
            is("loadingBalance after undo of load", 0, x::loadingBalance);
        });
        means();
    }

    private static void everyMinute(Numbers.Ask ask) {
        ParcelRailway first = new ParcelRailway();
        ParcelRailway busy = loaded(LINE + "inspect b 2;train 2 a b;train 1 b c;train 1 c b a;" + "parcel a c 1;".repeat(5)
                + "parcel c a 3;parcel b a 2;");
        for (ParcelRailway x : new ParcelRailway[] {first, busy}) {
            for (int minute = 0; minute < 40; minute++) {
                int now = minute;
                is("the balance in minute " + minute, 0, () -> ask.of(x, now));
                x.pass(1);
            }
            x.undo();
            is("the balance after undo", 0, () -> ask.of(x, 0));
        }
        ParcelRailway withdrawn = loaded(TWO + "parcel a b 1;parcel b a 1;");
        withdrawn.withdraw(0);
        is("the balance after a withdrawal", 0, () -> ask.of(withdrawn, 0));
    }

    private static void means() {
        under("Promise 44");
        says("Returns the sum of the delivery clocks of all delivered parcels converted to double, divided by their number"
                + " converted to double;", () -> {
            ParcelRailway x = loaded("stop a;stop b;" + "parcel a b 1;".repeat(4) + "run 1;");
            x.withdraw(0);
            is("meanDeliveryClock of one", 1.0, x::meanDeliveryClock);
            x.pass(1);
            x.withdraw(1);
            is("meanDeliveryClock of 1 and 2", 1.5, x::meanDeliveryClock);
            x.withdraw(3);
            is("meanDeliveryClock of 1, 2 and 2", 5.0 / 3.0, x::meanDeliveryClock);
            ParcelRailway zero = loaded("stop a;stop b;parcel a b 1;");
            zero.withdraw(0);
            is("meanDeliveryClock of a delivery at clock 0", 0.0, zero::meanDeliveryClock);
            ParcelRailway twelve = loaded("stop a;stop b;" + "parcel a b 1;".repeat(12));
            for (int parcel = 0; parcel < 12; parcel++) {
                twelve.withdraw(parcel);
                twelve.pass(1);
            }
            is("meanDeliveryClock of 0 to 11", 5.5, twelve::meanDeliveryClock);
        });
        says("0.0 if there are none.", () -> {
            is("meanDeliveryClock without parcels", 0.0, () -> loaded("run 9;").meanDeliveryClock());
            is("meanDeliveryClock without delivered ones", 0.0, () -> loaded(TWO + "parcel a b 1;run 9;").meanDeliveryClock());
            is("its sign", Double.POSITIVE_INFINITY, () -> 1.0 / loaded("").meanDeliveryClock());
        });
        under("Promise 45");
        says("Returns the number of delivered parcels converted to float, divided by the number of parcels converted to float;",
                () -> {
            ParcelRailway x = loaded("stop a;stop b;" + "parcel a b 1;".repeat(3) + "run 1;");
            is("deliveredShare of none", 0.0f, x::deliveredShare);
            x.withdraw(1);
            is("deliveredShare of one of three", 1.0f / 3.0f, x::deliveredShare);
            x.withdraw(0);
            is("deliveredShare of two of three", 2.0f / 3.0f, x::deliveredShare);
            x.withdraw(2);
            is("deliveredShare of all", 1.0f, x::deliveredShare);
        });
        says("0.0f if there are no parcels.", () -> {
            is("deliveredShare", 0.0f, () -> loaded(TWO + "train 1 a b;run 9;").deliveredShare());
            is("its sign", Double.POSITIVE_INFINITY, () -> 1.0f / loaded("").deliveredShare());
        });
    }
}

/** Sections 1 to 3 of the document: stations, tracks, trains and parcels. */
final class RailwaySentences extends Sentences {
    private static final String TWO = "stop a;stop b;track a b 1;";
    private static final String SEVEN = "stop a;stop b;stop c;stop d;request e;stop f;stop g;";
    private static final String ELEVEN = SEVEN + "track a b 1;track a c 1;track a d 1;track a e 1;track a f 1;track a g 1;"
            + "track b c 1;track b d 1;track b e 1;track b f 1;track b g 1;";

    static void tell() {
        under("Terms 1");
        stations();
        tracks();
        distances();
        under("Terms 2");
        trains();
        trips();
        under("Terms 3");
        parcels();
        dropStations();
    }

    private static void stations() {
        says("There are at most 8 stations", () -> {
            is("stationCount of eight", 8, () -> loaded(SEVEN + "request h;").stationCount());
            refused(SEVEN + "stop h;stop i;", 6, 59);
            refused(SEVEN + "request h;request i;", 6, 62);
        });
        says("numbered from 0 in the order of the input text", () -> {
            ParcelRailway x = loaded("request z;stop y;request x;stop w;parcel w x 1;parcel z y 2;parcel x w 3;parcel y z 4;");
            same("the stations of the parcels", "@w @z @x @y", Check.parcels(x));
            int[] origins = {3, 0, 2, 1};
            for (int p = 0; p < 4; p++) {
                int number = p;
                is("origin(" + p + ")", origins[p], () -> x.origin(number));
            }
            holds("isRequestStop(0)", true, () -> x.isRequestStop(0));
            holds("isRequestStop(3)", false, () -> x.isRequestStop(3));
        });
        says("A station has a name of 1 to 4 letters.", () -> {
            same("names of 1 to 4 letters", "@a @bb @ccc @dddd", Check.parcels(loaded("stop a;request bb;stop ccc;request dddd;"
                    + "parcel a bb 1;parcel bb a 1;parcel ccc a 1;parcel dddd a 1;")));
            refused("stop ;", 1, 5);
            refused("stop abcde;", 2, 5);
            refused("request abcde;", 2, 8);
        });
        says("It has an inspection time of 0 to 9 minutes.", () -> {
            ParcelRailway x = loaded("stop a;stop b;stop c;inspect a 0;inspect b 9;");
            is("inspectionTime(0)", 0, () -> x.inspectionTime(0));
            is("inspectionTime(1)", 9, () -> x.inspectionTime(1));
            is("inspectionTime(2) that the text does not set", 0, () -> x.inspectionTime(2));
            refused("stop a;inspect a 10;", 2, 17);
            fails("setInspection(0, 10)", BAD_ARGUMENT, () -> x.setInspection(0, 10));
            fails("setInspection(0, -1)", BAD_ARGUMENT, () -> x.setInspection(0, -1));
            is("inspectionTime(0) after refusals", 0, () -> x.inspectionTime(0));
            is("setInspection(1, 0)", 9, () -> x.setInspection(1, 0));
            is("setInspection(1, 9)", 0, () -> x.setInspection(1, 9));
        });
    }

    private static void tracks() {
        says("A track connects two different stations", () -> {
            refused("stop a;track a a 1;", 5, 15);
            refused("stop a;stop b;track b b 1;", 5, 22);
            is("travelTime(0, 0)", -1, () -> loaded(TWO).travelTime(0, 0));
            holds("isTrackOpen(1, 1)", false, () -> loaded(TWO).isTrackOpen(1, 1));
        });
        says("in both directions", () -> {
            ParcelRailway x = loaded("stop a;stop b;track a b 4;train 1 a b;train 1 b a;run 1;");
            is("travelTime(0, 1)", 4, () -> x.travelTime(0, 1));
            is("travelTime(1, 0)", 4, () -> x.travelTime(1, 0));
            is("distance(0, 1)", 4, () -> x.distance(0, 1));
            is("distance(1, 0)", 4, () -> x.distance(1, 0));
            same("both trains travel", "a>b:0 b>a:0", Check.trains(x));
            x.setTrackOpen(1, 0, false);
            holds("isTrackOpen(0, 1) of the track closed from the other end", false, () -> x.isTrackOpen(0, 1));
            holds("isTrackOpen(1, 0)", false, () -> x.isTrackOpen(1, 0));
        });
        says("There is at most one track between two stations", () -> {
            refused(TWO + "track a b 2;", 5, 34);
            refused(TWO + "track b a 2;", 5, 34);
            refused(TWO + "close a b;track a b 2;", 5, 44);
            is("trackCount of three pairs", 3, () -> loaded(TWO + "stop c;track a c 1;track c b 1;").trackCount());
        });
        says("there are at most 12 tracks", () -> {
            is("trackCount of twelve", 12, () -> loaded(ELEVEN + "track c d 1;").trackCount());
            refused(ELEVEN + "track c d 1;track c e 1;", 6, 196);
        });
        says("A track has a travel time of 1 to 9 minutes.", () -> {
            for (int minutes = 1; minutes <= 9; minutes++) {
                int due = minutes;
                ParcelRailway x = loaded("stop a;stop b;track a b " + minutes + ";");
                is("travelTime", due, () -> x.travelTime(0, 1));
            }
            refused("stop a;stop b;track a b 0;", 2, 24);
            refused("stop a;stop b;track a b 10;", 2, 24);
        });
        says("It is open at first.", () -> {
            ParcelRailway x = loaded(TWO + "train 1 a b;run 1;");
            holds("isTrackOpen(0, 1) of a new track", true, () -> x.isTrackOpen(0, 1));
            same("a train departs on it", "a>b:0", Check.trains(x));
            ParcelRailway y = loaded(TWO + "close a b;");
            Check.load(y, TWO);
            holds("isTrackOpen(0, 1) where an earlier text closed one", true, () -> y.isTrackOpen(0, 1));
        });
    }

    private static void distances() {
        says("The distance between two stations is the smallest sum of the travel times of open tracks that lead from one to"
                + " the other.", () -> {
            // The first track of the shortest way from a to d is the longest one that leaves a.
            ParcelRailway x = loaded("stop a;stop b;stop c;stop d;track a b 1;track b d 9;track a c 4;track c d 4;track b c 5;");
            is("distance(0, 3)", 8, () -> x.distance(0, 3));
            is("distance(3, 0)", 8, () -> x.distance(3, 0));
            is("distance(1, 2) where the direct track is as long as the way round it", 5, () -> x.distance(1, 2));
            x.setTrackOpen(0, 2, false);
            is("distance(0, 3) with a closed track", 10, () -> x.distance(0, 3));
            is("distance(0, 2) with a closed track", 6, () -> x.distance(0, 2));
            ParcelRailway far = loaded("stop a;stop b;stop c;stop d;stop e;stop f;stop g;stop h;track h g 9;track g f 9;"
                    + "track f e 9;track e d 9;track d c 9;track c b 9;track b a 9;");
            is("the greatest distance", 63, () -> far.distance(0, 7));
            String names = "abcdefgh";
            for (int middle = 0; middle < 8; middle++) {
                StringBuilder star = new StringBuilder("stop a;stop b;stop c;stop d;stop e;stop f;stop g;stop h;");
                for (int s = 0; s < 8; s++) {
                    star.append(s == middle ? "" : "track " + names.charAt(middle) + " " + names.charAt(s) + " 4;");
                }
                ParcelRailway y = loaded(star.toString());
                int from = (middle + 1) % 8;
                int to = (middle + 5) % 8;
                is("distance over station " + middle, 8, () -> y.distance(from, to));
            }
        });
        says("The distance of a station from itself is 0.", () -> {
            ParcelRailway x = loaded(TWO + "stop c;close a b;");
            for (int station = 0; station < 3; station++) {
                int s = station;
                is("distance from itself of " + s, 0, () -> x.distance(s, s));
            }
            is("distance(0, 0) with an open track", 0, () -> loaded(TWO).distance(0, 0));
        });
        says("If no open tracks lead from one station to the other, there is no distance.", () -> {
            ParcelRailway x = loaded(TWO + "stop c;track b c 2;stop d;");
            is("distance(0, 3) of a station without tracks", -1, () -> x.distance(0, 3));
            is("distance(3, 0) of a station without tracks", -1, () -> x.distance(3, 0));
            x.setTrackOpen(1, 2, false);
            is("distance(0, 2) over a closed track", -1, () -> x.distance(0, 2));
            is("distance(2, 0) over a closed track", -1, () -> x.distance(2, 0));
            is("distance(0, 1) over an open track", 1, () -> x.distance(0, 1));
            x.setTrackOpen(1, 2, true);
            is("distance(0, 2) over an opened track", 3, () -> x.distance(0, 2));
        });
    }

    private static void trains() {
        says("There are at most 4 trains", () -> {
            String four = TWO + "train 1 a b;train 1 b a;train 1 a b;train 1 b a;";
            is("trainCount of four", 4, () -> loaded(four).trainCount());
            refused(four + "train 1 a b;", 6, 74);
        });
        says("numbered from 0 in the order of the input text", () -> {
            ParcelRailway x = loaded(TWO + "train 3 b a;train 1 a b;train 4 a b a;train 2 b a b a;");
            int[] capacities = {3, 1, 4, 2};
            int[] lengths = {2, 2, 3, 4};
            for (int t = 0; t < 4; t++) {
                int number = t;
                is("capacity(" + t + ")", capacities[t], () -> x.capacity(number));
                is("routeLength(" + t + ")", lengths[t], () -> x.routeLength(number));
            }
        });
        says("A train has a capacity of 1 to 4 parcels and a route.", () -> {
            for (int capacity = 1; capacity <= 4; capacity++) {
                int due = capacity;
                ParcelRailway x = loaded(TWO + "train " + capacity + " a b;" + "parcel a b 1;".repeat(6) + "run 1;");
                is("capacity", due, () -> x.capacity(0));
                is("carriedCount of six that wait", due, () -> x.carriedCount(0));
            }
            refused(TWO + "train 0 a b;", 2, 32);
            refused(TWO + "train 5 a b;", 2, 32);
        });
        says("A route is a sequence of 2 to 6 stations.", () -> {
            String route = " a b a b a b";
            for (int length = 2; length <= 6; length++) {
                int due = length;
                ParcelRailway x = loaded(TWO + "train 1" + route.substring(0, 2 * length) + ";");
                is("routeLength", due, () -> x.routeLength(0));
                is("the last station", (due + 1) % 2, () -> x.routeStation(0, due - 1));
            }
            refused(TWO + "train 1;", 1, 33);
            refused(TWO + "train 1 a;", 1, 35);
            refused(TWO + "train 1 a b a b a b a;", 6, 46);
        });
        says("Neighboring stations of a route are connected by a track.", () -> {
            refused(TWO + "stop c;train 1 a c;", 5, 43);
            refused(TWO + "stop c;train 1 a b c;", 5, 45);
            refused(TWO + "train 1 a a;", 5, 36);
        });
        says("A station can occur several times on a route.", () -> {
            ParcelRailway x = loaded("stop a;stop b;stop c;track a b 1;track b c 1;track c a 1;train 1 a b c a b c;");
            for (int index = 0; index < 6; index++) {
                int i = index;
                is("routeStation(0, " + i + ")", i % 3, () -> x.routeStation(0, i));
            }
        });
    }

    private static void trips() {
        says("A train travels along its route to the last station, then back to the first station, then forward again, and so"
                + " on.", () -> {
            ParcelRailway x = loaded("stop a;stop b;stop c;track a b 1;track b c 1;train 1 a b c;");
            StringBuilder places = new StringBuilder();
            for (int minute = 0; minute < 20; minute++) {
                places.append(Check.trains(x)).append(' ');
                x.pass(1);
            }
            same("the train's places", "a:0 a>b:0 b:0 b>c:0 c:0 c>b:0 b:0 b>a:0 ".repeat(3).substring(0, places.length()),
                    places.toString());
        });
        says("At first it stands at the first station of its route, and its direction is forward.", () -> {
            ParcelRailway x = loaded(TWO + "train 1 b a;run 3;train 1 a b;");
            is("trainStation(1) of a new train", 0, () -> x.trainStation(1));
            holds("isForward(1)", true, () -> x.isForward(1));
            is("nextStation(1)", 1, () -> x.nextStation(1));
            is("minutesToNext(1)", -1, () -> x.minutesToNext(1));
            ParcelRailway y = loaded(TWO + "train 1 b a;");
            is("trainStation(0)", 1, () -> y.trainStation(0));
            holds("isForward(0)", true, () -> y.isForward(0));
        });
        says("The stations ahead of a train are the stations that follow its current position on its route in its current"
                + " direction, up to the end of the route.", () -> {
            String line = "stop a;stop b;stop c;track a b 1;track b c 1;";
            ParcelRailway forward = loaded(line + "train 1 b a;train 1 a b c;parcel b c 1;parcel a c 1;");
            is("obstacle of a parcel to c: beyond the end of the route b a", 3, () -> forward.loadingObstacle(0, 0));
            is("obstacle of a parcel to the last station of the route", 0, () -> forward.loadingObstacle(1, 1));
            ParcelRailway away = loaded("stop a;stop b;stop c;track a b 1;track b c 9;track a c 3;train 1 a b c;parcel a c 1;run 1;");
            is("dropStation at the last station though the next one is farther off", 2, () -> away.dropStation(0));
            ParcelRailway back = loaded(line + "train 2 a b c;run 4;parcel c a 1;parcel c b 1;");
            is("obstacle of a parcel to the first station, backward", 0, () -> back.loadingObstacle(0, 0));
            is("obstacle of a parcel to the middle station, backward", 0, () -> back.loadingObstacle(0, 1));
            ParcelRailway middle = loaded(line + "train 1 a b c;run 2;parcel b c 1;parcel b a 1;");
            is("obstacle at b of a parcel ahead", 0, () -> middle.loadingObstacle(0, 0));
            is("obstacle at b of a parcel behind", 3, () -> middle.loadingObstacle(0, 1));
            middle.pass(4);
            middle.addParcel(1, 2, 1);
            is("obstacle at b of a parcel ahead, on the way back", 0, () -> middle.loadingObstacle(0, 1));
            is("obstacle at b of a parcel behind, on the way back", 3, () -> middle.loadingObstacle(0, 2));
        });
        says("While a train travels on a track, its current position is the station that it left.", () -> {
            ParcelRailway x = loaded("stop a;stop b;stop c;track a b 3;track b c 1;train 1 a b c;run 1;");
            for (int minute = 0; minute < 3; minute++) {
                same("the train", "a>b:0", Check.trains(x));
                is("nextStation(0)", 1, () -> x.nextStation(0));
                x.pass(1);
            }
            same("the train at b", "b:0", Check.trains(x));
        });
    }

    private static void parcels() {
        says("There are at most 12 parcels", () -> {
            String twelve = TWO + "parcel a b 1;".repeat(12);
            ParcelRailway x = loaded(twelve);
            is("parcelCount of twelve", 12, x::parcelCount);
            refused(twelve + "parcel a b 1;", 6, 182);
            fails("addParcel of a 13th", BAD_STATE, () -> x.addParcel(0, 1, 1));
            ParcelRailway y = loaded(TWO + "parcel a b 1;".repeat(11));
            is("addParcel of a 12th", 11, () -> y.addParcel(0, 1, 1));
            fails("addParcel of a 13th", BAD_STATE, () -> y.addParcel(0, 1, 1));
        });
        says("numbered from 0 in the order in which they were added", () -> {
            ParcelRailway x = loaded(TWO + "parcel a b 7;run 1;parcel b a 4;");
            x.addParcel(0, 1, 9);
            x.addParcel(1, 0, 2);
            int[] priorities = {7, 4, 9, 2};
            for (int p = 0; p < 4; p++) {
                int number = p;
                is("priority(" + p + ")", priorities[p], () -> x.priority(number));
                is("origin(" + p + ")", p % 2, () -> x.origin(number));
            }
        });
        says("a destination that is a different station", () -> {
            refused(TWO + "parcel a a 1;", 5, 35);
            refused(TWO + "parcel b b 1;", 5, 35);
            fails("addParcel(1, 1, 1)", BAD_ARGUMENT, () -> loaded(TWO).addParcel(1, 1, 1));
            accepted(TWO + "parcel a b 1;parcel b a 1;");
        });
        says("a priority of 1 to 9", () -> {
            for (int priority = 1; priority <= 9; priority++) {
                int due = priority;
                ParcelRailway x = loaded(TWO + "parcel a b " + priority + ";");
                is("priority(0)", due, () -> x.priority(0));
            }
            refused(TWO + "parcel a b 0;", 2, 37);
            refused(TWO + "parcel a b 10;", 2, 37);
        });
        says("it waits at a station, it is on a train, or it is delivered.", () -> {
            ParcelRailway x = loaded("stop a;stop b;stop c;track a b 2;track b c 1;train 1 a b;parcel a c 1;inspect b 2;"
                    + "train 1 c b;");
            int seen = 0;
            for (int minute = 0; minute < 12; minute++) {
                int states = (x.parcelStation(0) != -1 ? 1 : 0) + (x.parcelTrain(0) != -1 ? 1 : 0)
                        + (x.deliveryClock(0) != -1 ? 1 : 0);
                is("states of the parcel in minute " + minute, 1, () -> states);
                seen |= x.parcelStation(0) != -1 ? 1 : x.parcelTrain(0) != -1 ? 2 : 4;
                x.pass(1);
            }
            int all = seen;
            is("the states that were seen", 7, () -> all);
        });
        says("At first it waits at its origin and is not held.", () -> {
            ParcelRailway x = loaded(TWO + "inspect a 9;inspect b 9;train 1 a b;parcel a b 1;parcel b a 1;");
            x.addParcel(0, 1, 2);
            for (int p = 0; p < 3; p++) {
                int number = p;
                is("parcelStation(" + p + ")", p % 2, () -> x.parcelStation(number));
                holds("isHeld(" + p + ")", false, () -> x.isHeld(number));
            }
            is("loadingObstacle of the new one", 0, () -> x.loadingObstacle(0, 2));
        });
    }

    private static void dropStations() {
        says("Among the stations ahead of the train, those that have a distance from the destination of the parcel are"
                + " considered.", () -> {
            // c has no distance from d as the track between them is closed; neither has a once a b is closed.
            String text = "stop a;stop b;stop c;stop d;track a b 1;track b c 1;track c d 1;track b d 5;train 1 a b c;"
                    + "parcel a d 1;";
            ParcelRailway x = loaded(text + "close b c;close c d;run 1;");
            is("dropStation: b, as c has no distance", 1, () -> x.dropStation(0));
            ParcelRailway none = loaded(text + "close c d;close b d;");
            is("loadingObstacle where no station has a distance", 3, () -> none.loadingObstacle(0, 0));
        });
        says("The drop station is the considered station with the smallest distance from the destination;", () -> {
            String text = "stop a;stop b;stop c;stop d;stop e;track a b 1;track b c 1;track c d 1;track b e 4;track c e 2;"
                    + "track d e 9;train 1 a b c d;parcel a e 1;";
            ParcelRailway x = loaded(text + "run 1;");
            is("dropStation in the middle of the route", 2, () -> x.dropStation(0));
            ParcelRailway last = loaded(text + "close c e;close b e;run 1;");
            is("dropStation at the end of the route", 3, () -> last.dropStation(0));
        });
        says("the first one ahead if several have it.", () -> {
            String tracks = "stop a;stop b;stop c;stop e;track a b 3;track b c 1;track b e 2;track c e 2;track c a 9;";
            ParcelRailway x = loaded(tracks + "train 1 a b c;parcel a e 1;run 1;");
            is("dropStation: b before c", 1, () -> x.dropStation(0));
            ParcelRailway y = loaded(tracks + "train 1 a c b;parcel a e 1;run 1;");
            is("dropStation: c before b", 2, () -> y.dropStation(0));
        });
        says("There is a drop station only if this distance is smaller than the distance of the train's station from the"
                + " destination", () -> {
            String ring = "stop a;stop b;stop d;track a b 1;track b d 3;track a d 3;train 1 a b;parcel a d 1;";
            is("loadingObstacle where the distances are equal", 3, () -> loaded(ring).loadingObstacle(0, 0));
            String longer = "stop a;stop b;stop d;track a b 2;track b d 4;track a d 3;train 1 a b;parcel a d 1;";
            is("loadingObstacle where it is greater", 3, () -> loaded(longer).loadingObstacle(0, 0));
            String shorter = "stop a;stop b;stop d;track a b 1;track b d 2;track a d 4;train 1 a b;parcel a d 1;";
            is("loadingObstacle where it is smaller by one", 0, () -> loaded(shorter).loadingObstacle(0, 0));
        });
        says("if the train's station has no distance from the destination.", () -> {
            ParcelRailway x = loaded("stop a;stop b;stop c;track a b 1;track b c 9;train 1 a b;parcel a c 1;close a b;");
            is("distance of the train's station", -1, () -> x.distance(0, 2));
            is("loadingObstacle", 0, () -> x.loadingObstacle(0, 0));
            x.pass(1);
            is("dropStation", 1, () -> x.dropStation(0));
        });
    }
}

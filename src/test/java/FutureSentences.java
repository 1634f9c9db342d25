/** Promises 46 to 52: questions about the future. */
final class FutureSentences extends Sentences {
    /** The train departs in minutes 1, 11, 21 .. and arrives in 10, 20, 30 .. */
    private static final String SLOW = "stop a;stop b;track a b 9;train 1 a b;";
    private static final int[] WRONG_MINUTES = {-1, 121, 1000, Integer.MIN_VALUE, Integer.MAX_VALUE};

    static void tell() {
        deliveries();
        finishing();
        stops();
        places();
        delivered();
        ifClosed();
        worst();
    }

    private static void deliveries() {
        under("Promise 46");
        says("Returns the number of minutes after which the parcel is delivered;", () -> {
            ParcelRailway x = loaded(SLOW + "parcel a b 1;".repeat(6));
            for (int parcel = 0; parcel < 6; parcel++) {
                int p = parcel;
                is("minutesToDelivery(" + p + ")", 10 + 20 * p, () -> x.minutesToDelivery(p));
            }
            x.pass(9);
            is("minutesToDelivery(0) in the next minute", 1, () -> x.minutesToDelivery(0));
        });
        says("0 if it is delivered", () -> {
            ParcelRailway x = loaded(SLOW + "parcel a b 1;parcel a b 1;run 10;");
            is("minutesToDelivery(0)", 0, () -> x.minutesToDelivery(0));
            is("minutesToDelivery(1)", 20, () -> x.minutesToDelivery(1));
        });
        says("NONE if it is not delivered within 120 minutes.", () -> {
            ParcelRailway x = loaded(SLOW + "parcel a b 1;".repeat(7) + "run 9;");
            is("minutesToDelivery(6) in 121 minutes", -1, () -> x.minutesToDelivery(6));
            x.pass(1);
            is("minutesToDelivery(6) in 120 minutes", 120, () -> x.minutesToDelivery(6));
            x.pass(1);
            is("minutesToDelivery(6) in 119 minutes", 119, () -> x.minutesToDelivery(6));
            is("minutesToDelivery(0) never", -1, () -> loaded("stop a;stop b;parcel a b 1;").minutesToDelivery(0));
        });
        says("Throws `IndexOutOfBoundsException` if the parcel does not exist",
                () -> Numbers.check(46, Numbers.Kind.PARCEL, "minutesToDelivery", (x, n) -> x.minutesToDelivery(n)));
    }

    private static void finishing() {
        under("Promise 47");
        says("Returns the number of minutes after which all parcels are delivered;", () -> {
            is("minutesToFinish of three", 50, () -> loaded(SLOW + "parcel a b 1;".repeat(3)).minutesToFinish());
            is("minutesToFinish in the next minute", 1, () -> loaded(SLOW + "parcel a b 1;run 9;").minutesToFinish());
        });
        says("0 if they are", () -> {
            is("minutesToFinish of one that is delivered", 0, () -> loaded(SLOW + "parcel a b 1;run 10;").minutesToFinish());
            is("minutesToFinish without parcels", 0, () -> loaded(SLOW).minutesToFinish());
            is("minutesToFinish of the empty text", 0, () -> loaded("").minutesToFinish());
        });
        says("NONE if they are not within 120 minutes.", () -> {
            ParcelRailway x = loaded(SLOW + "parcel a b 1;".repeat(7) + "run 9;");
            is("minutesToFinish in 121 minutes", -1, x::minutesToFinish);
            x.pass(1);
            is("minutesToFinish in 120 minutes", 120, x::minutesToFinish);
            is("minutesToFinish where one is never delivered", -1,
                    () -> loaded(SLOW + "stop c;parcel a b 1;parcel a c 1;").minutesToFinish());
        });
    }

    private static void stops() {
        under("Promise 48");
        says("Returns the number of minutes after which a train stops next at the station when it arrives there;", () -> {
            ParcelRailway x = loaded(SLOW);
            is("minutesToStop(1)", 10, () -> x.minutesToStop(1));
            is("minutesToStop(0) where the train stands", 20, () -> x.minutesToStop(0));
            x.pass(9);
            is("minutesToStop(1) in the next minute", 1, () -> x.minutesToStop(1));
            x.pass(1);
            is("minutesToStop(1) where it has just stopped", 20, () -> x.minutesToStop(1));
            ParcelRailway passed = loaded("stop a;request b;stop c;track a b 2;track b c 3;train 1 a b c;parcel b a 1;");
            is("minutesToStop(1) where the train passes first", 10, () -> passed.minutesToStop(1));
            ParcelRailway two = loaded("stop a;stop b;stop c;track a b 9;track b c 4;train 1 a b;train 1 c b;");
            is("minutesToStop(1) of the earlier one of two trains", 5, () -> two.minutesToStop(1));
            // What an earlier question saw must not be taken for a stop.
            ParcelRailway asked = loaded(SLOW);
            is("minutesToStop(1)", 10, () -> asked.minutesToStop(1));
            asked.setTrackOpen(0, 1, false);
            is("minutesToStop(1) when the track is closed", -1, () -> asked.minutesToStop(1));
            asked.setTrackOpen(0, 1, true);
            asked.pass(10);
            asked.undo();
            is("minutesToStop(1) after the stop was undone", 10, () -> asked.minutesToStop(1));
        });
        says("NONE if none does within 120 minutes.", () -> {
            // The train comes past c in minutes 9, 37, 65, 93 and 121; the fifth parcel is the only one for c.
            ParcelRailway x = loaded("stop a;request c;stop b;track a c 8;track c b 5;train 1 a c b;stop d;"
                    + "parcel a b 9;".repeat(4) + "parcel a c 1;");
            is("minutesToStop(1) in 121 minutes", -1, () -> x.minutesToStop(1));
            x.pass(1);
            is("minutesToStop(1) in 120 minutes", 120, () -> x.minutesToStop(1));
            x.pass(1);
            is("minutesToStop(1) in 119 minutes", 119, () -> x.minutesToStop(1));
            is("minutesToStop(3) where no train comes", -1, () -> x.minutesToStop(3));
            ParcelRailway shut = loaded(SLOW + "close a b;");
            is("minutesToStop(0) of a train that stands there for ever", -1, () -> shut.minutesToStop(0));
            is("minutesToStop(1) of a train that cannot depart", -1, () -> shut.minutesToStop(1));
        });
        says("Throws `IndexOutOfBoundsException` if the station does not exist",
                () -> Numbers.check(48, Numbers.Kind.STATION, "minutesToStop", (x, n) -> x.minutesToStop(n)));
    }

    private static void places() {
        under("Promise 49");
        says("a number of minutes, 0 to 120", () -> {
            ParcelRailway x = loaded(SLOW);
            is("trainStationAfter(0, 0)", 0, () -> x.trainStationAfter(0, 0));
            is("trainStationAfter(0, 120)", 0, () -> x.trainStationAfter(0, 120));
            is("trainStationAfter(0, 110)", 1, () -> x.trainStationAfter(0, 110));
        });
        says("NONE if it travels on a track then.", () -> {
            ParcelRailway x = loaded(SLOW);
            is("trainStationAfter(0, 1)", -1, () -> x.trainStationAfter(0, 1));
            is("trainStationAfter(0, 9)", -1, () -> x.trainStationAfter(0, 9));
            is("trainStationAfter(0, 10)", 1, () -> x.trainStationAfter(0, 10));
            is("trainStationAfter(0, 11)", -1, () -> x.trainStationAfter(0, 11));
            is("trainStationAfter(0, 119)", -1, () -> x.trainStationAfter(0, 119));
            x.pass(1);
            is("trainStationAfter(0, 0) while it travels", -1, () -> x.trainStationAfter(0, 0));
        });
        says("Throws `IndexOutOfBoundsException` if the train does not exist",
                () -> Numbers.check(49, Numbers.Kind.TRAIN, "trainStationAfter", (x, n) -> x.trainStationAfter(n, 1)));
        says("Throws `IllegalArgumentException` if the number of minutes is out of range", () -> {
            ParcelRailway x = loaded(SLOW);
            for (int minutes : WRONG_MINUTES) {
                fails("trainStationAfter(0, " + minutes + ")", BAD_ARGUMENT, () -> x.trainStationAfter(0, minutes));
            }
        });
    }

    private static void delivered() {
        under("Promise 50");
        says("a number of minutes, 0 to 120", () -> {
            ParcelRailway x = loaded(SLOW + "parcel a b 1;".repeat(7) + "run 10;");
            is("deliveredAfter(0)", 1, () -> x.deliveredAfter(0));
            is("deliveredAfter(120)", 7, () -> x.deliveredAfter(120));
        });
        says("Returns the number of parcels that are delivered after these minutes.", () -> {
            ParcelRailway x = loaded(SLOW + "parcel a b 1;".repeat(7));
            is("deliveredAfter(9)", 0, () -> x.deliveredAfter(9));
            is("deliveredAfter(10)", 1, () -> x.deliveredAfter(10));
            is("deliveredAfter(29)", 1, () -> x.deliveredAfter(29));
            is("deliveredAfter(30)", 2, () -> x.deliveredAfter(30));
            x.pass(10);
            is("deliveredAfter(20) counts those of the past", 2, () -> x.deliveredAfter(20));
            is("deliveredAfter(60) without parcels", 0, () -> loaded(SLOW).deliveredAfter(60));
        });
        says("Throws `IllegalArgumentException` if the number of minutes is out of range", () -> {
            ParcelRailway x = loaded(SLOW);
            for (int minutes : WRONG_MINUTES) {
                fails("deliveredAfter(" + minutes + ")", BAD_ARGUMENT, () -> x.deliveredAfter(minutes));
            }
        });
    }

    private static void ifClosed() {
        under("Promise 51");
        says("another station", () -> {
            ParcelRailway x = loaded(SLOW);
            fails("deliveredIfClosed(0, 0, 1)", BAD_ARGUMENT, () -> x.deliveredIfClosed(0, 0, 1));
            fails("deliveredIfClosed(1, 1, 1)", BAD_ARGUMENT, () -> x.deliveredIfClosed(1, 1, 1));
            is("deliveredIfClosed(1, 0, 1)", 0, () -> x.deliveredIfClosed(1, 0, 1));
        });
        says("a number of minutes, 0 to 120", () -> {
            ParcelRailway x = loaded(SLOW + "stop c;track b c 1;" + "parcel a b 1;".repeat(7) + "run 10;");
            is("deliveredIfClosed(1, 2, 0)", 1, () -> x.deliveredIfClosed(1, 2, 0));
            is("deliveredIfClosed(1, 2, 120)", 7, () -> x.deliveredIfClosed(1, 2, 120));
            is("deliveredIfClosed(1, 2, 119)", 6, () -> x.deliveredIfClosed(1, 2, 119));
        });
        says("Returns the number of parcels that are delivered after these minutes if the track between the stations was closed"
                + " now.", () -> {
            ParcelRailway x = loaded(SLOW + "parcel a b 1;parcel a b 1;");
            is("deliveredIfClosed(0, 1, 30) of a train that has not departed", 0, () -> x.deliveredIfClosed(0, 1, 30));
            is("deliveredAfter(30)", 2, () -> x.deliveredAfter(30));
            x.pass(1);
            is("deliveredIfClosed(0, 1, 30) of a train on the track", 1, () -> x.deliveredIfClosed(0, 1, 30));
            is("deliveredIfClosed(1, 0, 30) from the other end", 1, () -> x.deliveredIfClosed(1, 0, 30));
            holds("isTrackOpen(0, 1) afterwards", true, () -> x.isTrackOpen(0, 1));
            x.setTrackOpen(0, 1, false);
            is("deliveredIfClosed(0, 1, 30) of a closed track", 1, () -> x.deliveredIfClosed(0, 1, 30));
            holds("isTrackOpen(0, 1) afterwards", false, () -> x.isTrackOpen(0, 1));
        });
        says("Throws `IndexOutOfBoundsException` if one of the stations does not exist", () -> {
            Numbers.check(51, Numbers.Kind.STATION, "deliveredIfClosed from", (x, n) -> x.deliveredIfClosed(n, 0, 1));
            Numbers.check(51, Numbers.Kind.STATION, "deliveredIfClosed to", (x, n) -> x.deliveredIfClosed(0, n, 1));
        });
        says("Throws `IllegalArgumentException` if there is no track between the stations", () -> {
            ParcelRailway x = loaded(SLOW + "stop c;track b c 1;close b c;");
            fails("deliveredIfClosed(0, 2, 1)", BAD_ARGUMENT, () -> x.deliveredIfClosed(0, 2, 1));
            fails("deliveredIfClosed(2, 0, 1)", BAD_ARGUMENT, () -> x.deliveredIfClosed(2, 0, 1));
            is("deliveredIfClosed(1, 2, 1) of a closed track", 0, () -> x.deliveredIfClosed(1, 2, 1));
        });
        says("or the number of minutes is out of range", () -> {
            ParcelRailway x = loaded(SLOW);
            for (int minutes : WRONG_MINUTES) {
                fails("deliveredIfClosed(0, 1, " + minutes + ")", BAD_ARGUMENT, () -> x.deliveredIfClosed(0, 1, minutes));
            }
        });
    }

    private static void worst() {
        under("Promise 52");
        String pair = "stop a;stop b;stop c;stop d;";
        says("Returns the number of the track whose closure now leads to the smallest number of parcels that are delivered after"
                + " 60 minutes;", () -> {
            // Line c d delivers in minutes 20, 40 and 60, line a b in 10 and 30.
            String lines = pair + "track a b 9;track c d 9;train 1 a b;train 1 d c;parcel a b 1;parcel a b 1;";
            is("worstClosure: minute 60 counts", 1, () -> loaded(lines + "parcel c d 1;".repeat(3)).worstClosure());
            // Here line c d delivers in minutes 27 and 61, line a b in 10.
            is("worstClosure: minute 61 does not", 0, () -> loaded(pair + "stop r;track a b 9;track c d 9;track d r 6;"
                    + "train 1 a b;train 1 r d c;parcel a b 1;parcel c d 1;parcel c d 1;").worstClosure());
            ParcelRailway now = loaded(pair + "track a b 9;track c d 9;train 1 a b;train 1 c d;parcel a b 1;parcel c d 1;close a b;"
                    + "run 1;");
            now.setTrackOpen(0, 1, true);
            is("worstClosure: the train on track c d is not affected", 0, now::worstClosure);
        });
        says("the track that was added first if several have it;", () -> {
            String lines = pair + "track a b 1;track c d 1;track a c 1;";
            is("worstClosure where nothing moves", 0, () -> loaded(lines).worstClosure());
            is("worstClosure of two equal losses", 0, () -> loaded(lines + "train 1 a b;train 1 c d;parcel a b 1;parcel c d 1;")
                    .worstClosure());
            is("worstClosure of the two that are added later", 1,
                    () -> loaded(pair + "track a c 1;track a b 1;track c d 1;train 1 a b;train 1 c d;parcel a b 1;parcel c d 1;")
                    .worstClosure());
        });
        says("closed tracks are considered, too;", () -> {
            String lines = pair + "track a b 1;track c d 1;train 1 c d;parcel c d 1;";
            is("worstClosure of a closed track where nothing is delivered anyway", 0,
                    () -> loaded(pair + "track a b 1;track c d 1;close a b;").worstClosure());
            is("worstClosure of closed tracks only", 0, () -> loaded(lines + "close a b;close c d;").worstClosure());
            is("worstClosure of a closed track that would deliver if it was open", 0,
                    () -> loaded(pair + "track a b 1;track c d 1;train 1 a b;parcel a b 1;close a b;").worstClosure());
            is("worstClosure: the closed track changes nothing", 1, () -> loaded(lines + "close a b;").worstClosure());
        });
        says("tracks are numbered from 0 in the order in which they were added;", () -> {
            String trip = "train 1 a b;parcel a b 1;";
            is("worstClosure of the first", 0, () -> loaded(pair + "track b a 1;track c d 1;track b c 1;" + trip).worstClosure());
            is("worstClosure of the second", 1, () -> loaded(pair + "track c d 1;track b a 1;track b c 1;" + trip).worstClosure());
            is("worstClosure of the third", 2, () -> loaded(pair + "track c d 1;track b c 1;track b a 1;" + trip).worstClosure());
        });
        says("NONE if there are no tracks.", () -> {
            is("worstClosure of stations alone", -1, () -> loaded(pair).worstClosure());
            is("worstClosure of the empty text", -1, () -> loaded("").worstClosure());
            ParcelRailway x = loaded(SLOW);
            is("worstClosure of one track", 0, x::worstClosure);
            Check.load(x, pair);
            is("worstClosure after another text", -1, x::worstClosure);
        });
    }
}

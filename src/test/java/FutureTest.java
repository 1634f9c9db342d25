/** Promises 46 to 52: questions about the future, which change nothing. */
public final class FutureTest {
    private static final Class<IndexOutOfBoundsException> NO_INDEX = IndexOutOfBoundsException.class;
    private static final Class<IllegalArgumentException> BAD_ARGUMENT = IllegalArgumentException.class;
    // One track of 9 minutes: the train departs in minutes 1, 11, 21 .. and arrives in 10, 20, 30 ..
    private static final String SLOW = "stop a;stop b;track a b 9;train 1 a b;";

    private static void deliveries() {
        ParcelRailway x = Check.loaded(SLOW + "parcel a b 9;" + "parcel a b 1;".repeat(6));
        int[] want = {10, 30, 50, 70, 90, 110, -1};
        for (int parcel = 0; parcel < want.length; parcel++) {
            int p = parcel;
            Check.is(46, "minutesToDelivery(" + p + ")", want[p], () -> x.minutesToDelivery(p));
        }
        Check.is(47, "minutesToFinish", -1, x::minutesToFinish);
        x.pass(9);
        Check.is(46, "minutesToDelivery(0)", 1, () -> x.minutesToDelivery(0));
        Check.is(46, "minutesToDelivery(6) in 121 minutes", -1, () -> x.minutesToDelivery(6));
        Check.is(47, "minutesToFinish in 121 minutes", -1, x::minutesToFinish);
        x.pass(1);
        Check.is(46, "minutesToDelivery of a delivered parcel", 0, () -> x.minutesToDelivery(0));
        Check.is(46, "minutesToDelivery(6) in 120 minutes", 120, () -> x.minutesToDelivery(6));
        Check.is(47, "minutesToFinish in 120 minutes", 120, x::minutesToFinish);
        Check.is(50, "deliveredAfter(120)", 7, () -> x.deliveredAfter(120));
        Check.is(50, "deliveredAfter(119)", 6, () -> x.deliveredAfter(119));
        Check.is(50, "deliveredAfter(0)", 1, () -> x.deliveredAfter(0));
        Check.is(50, "deliveredAfter(20)", 2, () -> x.deliveredAfter(20));
        Check.is(7, "the clock has not moved", 10, x::clock);
        Check.is(41, "nothing was delivered", 1, x::deliveredCount);
        Check.is(65, "undoDepth", 3, x::undoDepth);
        Check.is(47, "minutesToFinish without parcels", 0, () -> Check.loaded(SLOW).minutesToFinish());
        ParcelRailway done = Check.loaded(SLOW + "parcel a b 9;run 10;");
        Check.is(47, "minutesToFinish when all are delivered", 0, done::minutesToFinish);
        ParcelRailway stuck = Check.loaded("stop a;stop b;parcel a b 1;");
        Check.is(47, "minutesToFinish without trains", -1, stuck::minutesToFinish);
        Check.is(46, "minutesToDelivery without trains", -1, () -> stuck.minutesToDelivery(0));
        for (int parcel : new int[] {-1, 7, Integer.MIN_VALUE, Integer.MAX_VALUE}) {
            Check.fails(46, "minutesToDelivery(" + parcel + ")", NO_INDEX, () -> x.minutesToDelivery(parcel));
        }
    }

    private static void stops() {
        ParcelRailway x = Check.loaded(SLOW + "request c;");
        Check.is(48, "minutesToStop at the far end", 10, () -> x.minutesToStop(1));
        Check.is(48, "minutesToStop where it stands now", 20, () -> x.minutesToStop(0));
        Check.is(48, "minutesToStop where no train comes", -1, () -> x.minutesToStop(2));
        x.pass(9);
        Check.is(48, "minutesToStop in the next minute", 1, () -> x.minutesToStop(1));
        x.pass(1);
        Check.is(48, "minutesToStop after a stop just made", 20, () -> x.minutesToStop(1));
        x.setTrackOpen(0, 1, false);
        Check.is(48, "minutesToStop with a closed track", -1, () -> x.minutesToStop(1));
        for (int station : new int[] {-1, 3, Integer.MIN_VALUE, Integer.MAX_VALUE}) {
            Check.fails(48, "minutesToStop(" + station + ")", NO_INDEX, () -> x.minutesToStop(station));
        }
        // Passing b is no stop, the parcel's way back is.
        ParcelRailway y = Check.loaded("stop a;request b;stop c;track a b 2;track b c 3;train 2 a b c;parcel b a 1;");
        Check.is(48, "minutesToStop at a station that is passed first", 10, () -> y.minutesToStop(1));
        ParcelRailway two = Check.loaded("stop a;stop b;stop c;track a b 7;track c b 4;train 1 a b;train 1 c b;");
        Check.is(48, "minutesToStop of the earlier train", 5, () -> two.minutesToStop(1));
        ParcelRailway edge = Check.loaded("stop a;stop b;request c;track a b 9;track b c 9;train 1 c b a;close b a;run 11;");
        Check.is(48, "minutesToStop of a train that is kept", -1, () -> edge.minutesToStop(0));
        ParcelRailway far = Check.loaded("stop a;stop b;stop c;stop d;stop e;stop f;track a b 9;track b c 9;track c d 9;"
                + "track d e 9;track e f 9;train 1 f e d c b a;run 50;run 10;");
        Check.is(48, "minutesToStop at the start", 40, () -> far.minutesToStop(5));
        Check.is(48, "minutesToStop behind the start", 30, () -> far.minutesToStop(4));
        Check.is(48, "minutesToStop at the end again", 90, () -> far.minutesToStop(0));
        far.pass(30);
        Check.is(48, "minutesToStop at e, where it just stopped", 20, () -> far.minutesToStop(4));
        far.pass(30);
        Check.is(48, "minutesToStop at d", 10, () -> far.minutesToStop(2));
    }

    private static void stopEdge() {
        // Five tracks of 9 minutes take 50 minutes, as each one begins with the minute of departing.
        ParcelRailway x = Check.loaded("stop a;stop b;stop c;stop d;stop e;stop f;track a b 9;track b c 9;track c d 9;"
                + "track d e 9;track e f 9;train 1 f e d c b a;");
        Check.is(48, "minutesToStop at f", 100, () -> x.minutesToStop(5));
        x.setTrackOpen(0, 1, false);
        Check.is(48, "minutesToStop at f when the track to a is closed", -1, () -> x.minutesToStop(5));
        ParcelRailway y = Check.loaded("stop a;stop b;stop c;stop d;stop e;stop f;stop g;stop h;track a b 9;track b c 9;"
                + "track c d 9;track d e 9;track e f 9;train 1 f e d c b a;train 1 a b c d e f;run 1;");
        Check.is(48, "minutesToStop at f of either train", 49, () -> y.minutesToStop(5));
        ParcelRailway z = Check.loaded("request a;request b;request c;request d;stop e;stop f;track a b 9;track b c 9;"
                + "track c d 9;track d e 9;track e f 9;train 1 e f e d c b;train 1 b c;close c d;run 9;");
        Check.is(48, "minutesToStop at b of the short train", 11, () -> z.minutesToStop(1));
    }

    private static void stopInMinute120() {
        // Every 22 minutes a parcel passes c on its way to b; only the sixth one, in minute 120, is for c.
        ParcelRailway x = Check.loaded("stop a;request c;stop b;track a c 9;track c b 1;train 1 a c b;"
                + "parcel a b 9;".repeat(5) + "parcel a c 1;");
        Check.is(48, "minutesToStop in minute 120", 120, () -> x.minutesToStop(1));
        x.pass(60);
        Check.is(48, "minutesToStop 60 minutes later", 60, () -> x.minutesToStop(1));
    }

    private static void places() {
        ParcelRailway x = Check.loaded(SLOW);
        Check.is(49, "trainStationAfter(0, 0)", 0, () -> x.trainStationAfter(0, 0));
        Check.is(49, "trainStationAfter(0, 1)", -1, () -> x.trainStationAfter(0, 1));
        Check.is(49, "trainStationAfter(0, 9)", -1, () -> x.trainStationAfter(0, 9));
        Check.is(49, "trainStationAfter(0, 10)", 1, () -> x.trainStationAfter(0, 10));
        Check.is(49, "trainStationAfter(0, 11)", -1, () -> x.trainStationAfter(0, 11));
        Check.is(49, "trainStationAfter(0, 119)", -1, () -> x.trainStationAfter(0, 119));
        Check.is(49, "trainStationAfter(0, 120)", 0, () -> x.trainStationAfter(0, 120));
        for (int train : new int[] {-1, 1, Integer.MAX_VALUE}) {
            Check.fails(49, "trainStationAfter(" + train + ", 121)", NO_INDEX, () -> x.trainStationAfter(train, 121));
        }
        for (int minutes : new int[] {-1, 121, Integer.MIN_VALUE, Integer.MAX_VALUE}) {
            Check.fails(49, "trainStationAfter(0, " + minutes + ")", BAD_ARGUMENT, () -> x.trainStationAfter(0, minutes));
            Check.fails(50, "deliveredAfter(" + minutes + ")", BAD_ARGUMENT, () -> x.deliveredAfter(minutes));
            Check.fails(51, "deliveredIfClosed(0, 1, " + minutes + ")", BAD_ARGUMENT, () -> x.deliveredIfClosed(0, 1, minutes));
        }
        Check.is(7, "the clock has not moved", 0, x::clock);
        Check.same("the train has not moved", "a:0", Check.trains(x));
    }

    private static void closures() {
        ParcelRailway x = Check.loaded("stop a;stop b;stop c;stop d;track a b 1;track b c 1;track c d 1;train 2 a b c d;"
                + "parcel a b 1;parcel b c 1;parcel c d 1;parcel b d 1;");
        Check.is(51, "deliveredIfClosed(0, 1, 60)", 0, () -> x.deliveredIfClosed(0, 1, 60));
        Check.is(51, "deliveredIfClosed(2, 1, 60)", 1, () -> x.deliveredIfClosed(2, 1, 60));
        Check.is(51, "deliveredIfClosed(2, 3, 60)", 2, () -> x.deliveredIfClosed(2, 3, 60));
        Check.is(51, "deliveredIfClosed(2, 3, 0)", 0, () -> x.deliveredIfClosed(2, 3, 0));
        Check.is(51, "deliveredIfClosed(2, 3, 2)", 1, () -> x.deliveredIfClosed(2, 3, 2));
        Check.is(51, "deliveredIfClosed(2, 3, 120)", 2, () -> x.deliveredIfClosed(2, 3, 120));
        Check.is(50, "deliveredAfter(60)", 4, () -> x.deliveredAfter(60));
        Check.is(52, "worstClosure", 0, x::worstClosure);
        Check.holds(17, "the tracks are still open", true, () -> x.isTrackOpen(2, 3) && x.isTrackOpen(0, 1));
        x.pass(2);
        Check.is(52, "worstClosure behind b", 1, x::worstClosure);
        Check.is(51, "a train on the track is not affected", 1, () -> Check.loaded(SLOW + "parcel a b 1;run 1;")
                .deliveredIfClosed(0, 1, 9));
        for (int station : new int[] {-1, 4, Integer.MAX_VALUE}) {
            Check.fails(51, "deliveredIfClosed from " + station, NO_INDEX, () -> x.deliveredIfClosed(station, 0, 121));
            Check.fails(51, "deliveredIfClosed to " + station, NO_INDEX, () -> x.deliveredIfClosed(0, station, 121));
        }
        Check.fails(51, "deliveredIfClosed without a track", BAD_ARGUMENT, () -> x.deliveredIfClosed(0, 2, 1));
        Check.fails(51, "deliveredIfClosed of one station", BAD_ARGUMENT, () -> x.deliveredIfClosed(1, 1, 1));
        Check.is(65, "undoDepth", 2, x::undoDepth);
    }

    private static void worst() {
        Check.is(52, "worstClosure without tracks", -1, () -> Check.loaded("stop a;").worstClosure());
        Check.is(52, "worstClosure of equal ones", 0, () -> Check.loaded("stop a;stop b;stop c;track a b 1;track b c 1;")
                .worstClosure());
        // The closed track counts as well: without it the second would be the worst.
        ParcelRailway x = Check.loaded("stop a;stop b;stop c;stop d;track c d 1;track a b 1;train 1 a b;train 1 c d;"
                + "parcel a b 1;parcel c d 1;");
        Check.is(52, "worstClosure of equal losses", 0, x::worstClosure);
        x.setTrackOpen(0, 1, false);
        Check.is(52, "worstClosure, the open track cut as well", 0, x::worstClosure);
        x.setTrackOpen(0, 1, true);
        x.setTrackOpen(2, 3, false);
        Check.is(52, "worstClosure beside a closed track", 1, x::worstClosure);
        ParcelRailway edge = Check.loaded("stop a;stop b;stop c;track a c 1;track a b 9;train 1 a b;parcel a b 1;parcel a b 1;"
                + "parcel a b 1;parcel a b 1;");
        Check.is(52, "worstClosure of the used track", 1, edge::worstClosure);
        edge.setTrackOpen(0, 1, false);
        Check.is(52, "worstClosure when nothing moves", 0, edge::worstClosure);
        ParcelRailway late = Check.loaded("stop a;stop b;stop c;stop d;stop e;stop f;stop g;track g a 9;track a b 9;track b c 9;"
                + "track c d 9;track d e 9;track e f 9;train 1 f e d c b a;parcel f a 1;train 1 g a;train 1 a b;");
        Check.is(50, "deliveredAfter(50)", 1, () -> late.deliveredAfter(50));
        Check.is(52, "worstClosure of the first on the way", 1, late::worstClosure);
        ParcelRailway sixty = Check.loaded("stop a;stop b;stop c;track b c 1;track a b 9;train 1 a b;run 20;"
                + "parcel a b 2;parcel a b 1;parcel a b 1;");
        Check.is(50, "deliveredAfter(50)", 3, () -> sixty.deliveredAfter(50));
        Check.is(52, "worstClosure", 1, sixty::worstClosure);
    }

    private static void sixtyMinutes() {
        // The second line delivers in minutes 20, 40 and 60, the first one in 10 and 30.
        String lines = "stop a;stop b;stop p;stop q;track a b 9;track p q 9;train 1 a b;train 1 q p;"
                + "parcel a b 1;parcel a b 1;parcel p q 1;parcel p q 1;parcel p q 1;";
        ParcelRailway x = Check.loaded(lines);
        Check.is(50, "deliveredAfter(59)", 4, () -> x.deliveredAfter(59));
        Check.is(50, "deliveredAfter(60)", 5, () -> x.deliveredAfter(60));
        Check.is(52, "worstClosure counts minute 60", 1, x::worstClosure);
        // Here the second line delivers in minutes 27 and 61, the first one in 10.
        ParcelRailway y = Check.loaded("stop a;stop b;stop p;stop q;stop r;track a b 9;track p q 9;track q r 6;"
                + "train 1 a b;train 1 r q p;parcel a b 1;parcel p q 1;parcel p q 1;");
        Check.is(50, "deliveredAfter(60)", 2, () -> y.deliveredAfter(60));
        Check.is(50, "deliveredAfter(61)", 3, () -> y.deliveredAfter(61));
        Check.is(52, "worstClosure does not count minute 61", 0, y::worstClosure);
    }

    public static void main(String[] args) {
        deliveries();
        stops();
        stopEdge();
        stopInMinute120();
        places();
        closures();
        worst();
        sixtyMinutes();
        Check.finish("FutureTest");
    }
}

/** What the document's section 4 says of a minute, seen through promises 14, 15, 22 to 40 and 53. */
public final class MinuteTest {
    private static final String LINE = "stop a;request b;stop c;track a b 2;track b c 3;";

    private static void thereAndBack() {
        ParcelRailway x = Check.loaded(LINE + "train 2 a b c;");
        String[] places = {"a", "a>b", "a>b", "b>c", "b>c", "b>c", "c", "c>b", "c>b", "c>b", "b>a", "b>a", "a", "a>b"};
        int[] left = {-1, 2, 1, 3, 2, 1, -1, 3, 2, 1, 2, 1, -1, 2};
        int[] next = {1, 1, 1, 2, 2, 2, 1, 1, 1, 1, 0, 0, 1, 1};
        int[] stands = {0, -1, -1, -1, -1, -1, 2, -1, -1, -1, -1, -1, 0, -1};
        for (int minute = 0; minute < places.length; minute++) {
            int m = minute;
            Check.same("the train in minute " + m, places[m] + ":0", Check.trains(x));
            Check.is(27, "minutesToNext in minute " + m, left[m], () -> x.minutesToNext(0));
            Check.is(25, "nextStation in minute " + m, next[m], () -> x.nextStation(0));
            Check.is(24, "trainStation in minute " + m, stands[m], () -> x.trainStation(0));
            Check.holds(26, "isForward in minute " + m, m < 6 || m >= 12, () -> x.isForward(0));
            Check.is(29, "stopsMade in minute " + m, m < 6 ? 0 : m < 12 ? 1 : 2, () -> x.stopsMade(0));
            Check.is(30, "stopsPassed in minute " + m, m < 3 ? 0 : m < 10 ? 1 : 2, () -> x.stopsPassed(0));
            Check.is(7, "clock in minute " + m, m, x::clock);
            Check.is(28, "delay in minute " + m, 0, () -> x.delay(0));
            x.pass(1);
        }
    }

    private static void closedTracks() {
        ParcelRailway x = Check.loaded(LINE + "train 2 a b c;close c b;");
        x.pass(3);
        Check.same("the train passed b and stands there", "b:0", Check.trains(x));
        Check.is(30, "stopsPassed", 1, () -> x.stopsPassed(0));
        Check.is(29, "stopsMade", 0, () -> x.stopsMade(0));
        Check.is(28, "delay in the minute of arrival", 1, () -> x.delay(0));
        Check.is(25, "nextStation", 2, () -> x.nextStation(0));
        x.pass(2);
        Check.is(28, "delay", 3, () -> x.delay(0));
        Check.is(30, "stopsPassed", 1, () -> x.stopsPassed(0));
        x.setTrackOpen(1, 2, true);
        x.pass(1);
        Check.same("it leaves", "b>c:0", Check.trains(x));
        Check.is(27, "minutesToNext", 3, () -> x.minutesToNext(0));
        x.setTrackOpen(1, 2, false);
        x.pass(3);
        Check.same("closing does not stop a train on the track", "c:0", Check.trains(x));
        Check.is(28, "delay", 3, () -> x.delay(0));
        x.pass(1);
        Check.is(28, "delay of a train that stopped and cannot depart", 4, () -> x.delay(0));
        Check.same("it stays", "c:0", Check.trains(x));
    }

    private static void loadsWhereItStands() {
        ParcelRailway x = Check.loaded(LINE + "train 1 a b c;close b c;run 3;parcel b a 5;parcel b c 1;");
        Check.same("the train stands at b after passing it", "b:0", Check.trains(x));
        x.pass(1);
        Check.is(35, "nothing to c is loaded ahead: a is nearer behind", -1, () -> x.parcelTrain(0));
        Check.is(35, "c lies ahead though the track is closed: there is no distance from b", 0, () -> x.parcelTrain(1));
        Check.is(36, "its drop station", 2, () -> x.dropStation(1));
        Check.is(28, "delay", 2, () -> x.delay(0));
    }

    private static void requestStops() {
        ParcelRailway drops = Check.loaded(LINE + "train 2 a b c;parcel a b 1;run 3;");
        Check.is(39, "deliveryClock at a request stop that is a drop station", 3, () -> drops.deliveryClock(0));
        Check.is(29, "stopsMade", 1, () -> drops.stopsMade(0));
        Check.same("a train that stops does not depart at once", "b:0", Check.trains(drops));
        ParcelRailway loads = Check.loaded(LINE + "train 2 a b c;parcel b c 1;run 3;");
        Check.is(29, "stopsMade where a parcel can be loaded", 1, () -> loads.stopsMade(0));
        Check.is(35, "a train that stops does not load at once", -1, () -> loads.parcelTrain(0));
        loads.pass(1);
        Check.is(35, "it loads in the next minute", 0, () -> loads.parcelTrain(0));
        Check.same("and departs", "b>c:1", Check.trains(loads));
        ParcelRailway other = Check.loaded(LINE + "train 2 a b c;parcel b a 1;run 3;");
        Check.is(30, "a parcel the other way does not stop it", 1, () -> other.stopsPassed(0));
        other.pass(7);
        Check.is(29, "it stops on the way back", 2, () -> other.stopsMade(0));
        ParcelRailway full = Check.loaded(LINE + "train 1 a b c;parcel a c 1;parcel b c 9;run 3;");
        Check.is(30, "a full train passes", 1, () -> full.stopsPassed(0));
        ParcelRailway room = Check.loaded(LINE + "train 2 a b c;parcel a c 1;parcel b c 9;run 3;");
        Check.is(29, "a train with room stops", 1, () -> room.stopsMade(0));
        ParcelRailway regular = Check.loaded("stop a;stop b;stop c;track a b 1;track b c 1;train 1 a b c;run 2;");
        Check.is(29, "a train stops at a regular stop", 1, () -> regular.stopsMade(0));
        ParcelRailway ends = Check.loaded("request a;request b;track a b 1;train 1 a b;run 6;");
        Check.is(29, "a train stops at the ends of its route", 3, () -> ends.stopsMade(0));
        Check.is(30, "and never passes them", 0, () -> ends.stopsPassed(0));
    }

    private static void endsByPosition() {
        ParcelRailway x = Check.loaded("request a;request b;track a b 1;train 1 a b a b;run 2;");
        Check.same("b and a in the middle of the route are passed", "b>a:0", Check.trains(x));
        x.pass(1);
        Check.same("b and a in the middle of the route are passed", "a>b:0", Check.trains(x));
        x.pass(1);
        Check.same("b at the end is not", "b:0", Check.trains(x));
        Check.is(30, "stopsPassed", 2, () -> x.stopsPassed(0));
        Check.holds(26, "isForward", false, () -> x.isForward(0));
        Check.is(25, "nextStation", 0, () -> x.nextStation(0));
    }

    private static void heldParcelsDoNotStopTrains() {
        String text = "stop a;request b;stop c;track a b 1;track b c 1;train 1 a b;train 1 b c;parcel a c 1;inspect b 3;";
        ParcelRailway x = Check.loaded(text + "run 2;");
        Check.is(34, "the parcel is unloaded at b", 1, () -> x.parcelStation(0));
        Check.is(37, "transfers", 1, () -> x.transfers(0));
        Check.is(36, "dropStation while it waits", -1, () -> x.dropStation(0));
        for (int clock = 2; clock < 5; clock++) {
            Check.holds(38, "isHeld at clock " + clock, true, () -> x.isHeld(0));
            x.pass(1);
        }
        Check.holds(38, "isHeld at clock 5", false, () -> x.isHeld(0));
        Check.is(35, "parcelTrain at clock 5: the train came to b in minute 4, so it loads in minute 5", 1,
                () -> x.parcelTrain(0));
        x.pass(1);
        Check.is(39, "deliveryClock", 6, () -> x.deliveryClock(0));
        ParcelRailway middle = Check.loaded("stop a;request b;stop c;track a b 1;track b c 1;train 1 a b c;train 1 a b;"
                + "parcel a c 9;parcel b c 1;inspect b 9;run 2;");
        Check.same("the loaded train may pass b, the other may not", "b>c:1 b:0", Check.trains(middle));
    }

    private static void inspectionOfZero() {
        String text = "stop a;stop b;stop c;track a b 1;track b c 1;close a b;train 1 c b;train 1 a b;train 1 b c;";
        ParcelRailway x = Check.loaded(text + "parcel a c 1;");
        x.setTrackOpen(0, 1, true);
        x.pass(2);
        Check.is(37, "transfers", 1, () -> x.transfers(0));
        Check.holds(38, "isHeld without an inspection", false, () -> x.isHeld(0));
        x.setInspection(1, 9);
        Check.holds(38, "isHeld does not follow a later inspection time", false, () -> x.isHeld(0));
        x.pass(1);
        Check.is(35, "the first train at b takes it", 0, () -> x.parcelTrain(0));
    }

    private static void sameMinuteHandOver() {
        // The way over d keeps a distance to c, so that the parcel goes to b, where a train waits for its track.
        String tracks = "stop a;stop b;stop c;stop d;track a b 1;track b c 1;track b d 9;track d c 9;close b c;";
        ParcelRailway after = Check.loaded(tracks + "train 1 a b;train 1 b c;parcel a c 1;run 2;");
        Check.is(35, "the train that acts after the unloading one loads in the same minute", 1, () -> after.parcelTrain(0));
        Check.is(37, "transfers", 1, () -> after.transfers(0));
        ParcelRailway before = Check.loaded(tracks + "train 1 b c;train 1 a b;parcel a c 1;run 2;");
        Check.is(34, "the train that acts before it does not", 1, () -> before.parcelStation(0));
        before.pass(1);
        Check.is(35, "but in the next minute", 0, () -> before.parcelTrain(0));
        ParcelRailway held = Check.loaded(tracks + "inspect b 1;train 1 a b;train 1 b c;parcel a c 1;run 2;");
        Check.is(34, "a held parcel is not handed over at once", 1, () -> held.parcelStation(0));
        held.pass(1);
        Check.is(35, "but when its inspection is over", 1, () -> held.parcelTrain(0));
    }

    private static void transferToAnArrivingTrain() {
        ParcelRailway x = Check.loaded("stop a;stop b;stop c;stop d;track a b 1;track b c 1;track c d 1;"
                + "train 1 a b;train 1 c b;parcel a c 4;close c d;run 2;");
        Check.is(34, "train 0 unloads at b, train 1 arrives there in the same minute", 1, () -> x.parcelStation(0));
        x.pass(1);
        Check.is(35, "train 1 loads it", 1, () -> x.parcelTrain(0));
        x.pass(1);
        Check.is(39, "deliveryClock", 4, () -> x.deliveryClock(0));
    }

    private static void orderOfLoading() {
        String text = "stop a;stop b;track a b 1;train 2 a b;parcel a b 3;parcel a b 5;parcel a b 5;parcel b a 9;parcel a b 9;";
        ParcelRailway x = Check.loaded(text);
        int[] order = {4, 1, 2, 0};
        for (int i = 0; i < 4; i++) {
            int index = i;
            Check.is(15, "waitingParcel(0, " + i + ")", order[i], () -> x.waitingParcel(0, index));
        }
        Check.is(40, "loadingObstacle of the first", 0, () -> x.loadingObstacle(0, 4));
        Check.is(40, "loadingObstacle of the second", 0, () -> x.loadingObstacle(0, 1));
        Check.is(40, "loadingObstacle of the third", 4, () -> x.loadingObstacle(0, 2));
        Check.is(40, "loadingObstacle of the last", 4, () -> x.loadingObstacle(0, 0));
        Check.is(40, "loadingObstacle of a parcel elsewhere", 1, () -> x.loadingObstacle(0, 3));
        x.pass(1);
        Check.is(22, "carriedCount", 2, () -> x.carriedCount(0));
        Check.is(23, "carriedParcel(0, 0)", 1, () -> x.carriedParcel(0, 0));
        Check.is(23, "carriedParcel(0, 1)", 4, () -> x.carriedParcel(0, 1));
        Check.is(40, "loadingObstacle of a parcel on the train", 1, () -> x.loadingObstacle(0, 4));
        Check.is(40, "loadingObstacle while the train travels", 1, () -> x.loadingObstacle(0, 0));
        x.pass(1);
        Check.is(41, "deliveredCount", 2, x::deliveredCount);
        Check.is(40, "loadingObstacle of a delivered parcel", 1, () -> x.loadingObstacle(0, 4));
    }

    private static void orderFromTheFirstNumber() {
        ParcelRailway x = Check.loaded("stop a;stop b;track a b 1;train 2 a b;parcel a b 9;parcel a b 5;parcel a b 7;run 0;");
        int[] order = {0, 2, 1};
        int[] obstacles = {0, 4, 0};
        for (int i = 0; i < 3; i++) {
            int index = i;
            Check.is(15, "waitingParcel(0, " + i + ")", order[i], () -> x.waitingParcel(0, index));
            Check.is(40, "loadingObstacle(0, " + i + ")", obstacles[i], () -> x.loadingObstacle(0, index));
        }
    }

    private static void heldAtTheFirstStation() {
        ParcelRailway x = Check.loaded("stop b;stop a;stop c;track a b 1;track b c 1;train 1 a b;parcel a c 1;inspect b 3;run 2;");
        Check.is(34, "parcelStation", 0, () -> x.parcelStation(0));
        Check.holds(38, "isHeld at station 0", true, () -> x.isHeld(0));
        x.pass(3);
        Check.holds(38, "isHeld after the inspection", false, () -> x.isHeld(0));
    }

    private static void dropStations() {
        // A ring: a-b 1, b-c 1, c-d 1, d-a 1; the train goes a b c only.
        String ring = "stop a;stop b;stop c;stop d;track a b 1;track b c 1;track c d 1;track d a 1;";
        ParcelRailway x = Check.loaded(ring + "train 4 b c;parcel b d 1;train 4 a b c;parcel a d 1;parcel a c 1;");
        Check.is(40, "c is nearer to d than b", 0, () -> x.loadingObstacle(0, 0));
        Check.is(40, "a is as near to d as c: no drop station", 3, () -> x.loadingObstacle(1, 1));
        x.pass(1);
        Check.is(36, "dropStation of the parcel to d", 2, () -> x.dropStation(0));
        Check.is(36, "dropStation of the parcel to c", 2, () -> x.dropStation(2));
        // From a the stations b and c are equally near to e; the first one ahead is taken.
        String fork = "stop a;stop b;stop c;stop e;track a b 3;track b c 1;track b e 2;track c e 2;";
        ParcelRailway y = Check.loaded(fork + "train 4 a b c;parcel a e 1;run 1;");
        Check.is(36, "the first of two equally near stations", 1, () -> y.dropStation(0));
        // A nearer station further ahead wins.
        ParcelRailway z = Check.loaded("stop a;stop b;stop c;stop e;track a b 3;track b c 1;track b e 3;track c e 2;"
                + "train 4 a b c;parcel a e 1;run 1;");
        Check.is(36, "the nearer station, though it comes later", 2, () -> z.dropStation(0));
        // A station behind the train does not count, nor does the train's own.
        ParcelRailway w = Check.loaded("stop a;stop b;stop c;track a b 1;track b c 1;train 1 b a;train 1 b c;parcel b c 1;");
        Check.is(40, "the train to a has no drop station", 3, () -> w.loadingObstacle(0, 0));
        Check.is(40, "the train to c has", 0, () -> w.loadingObstacle(1, 0));
    }

    private static void withoutDistance() {
        // The train's station has no distance from d, c has one: any distance is small enough.
        String text = "stop a;stop b;stop c;stop d;track a b 1;track b c 1;track c d 9;train 2 a b c;parcel a d 1;close a b;";
        ParcelRailway x = Check.loaded(text + "run 1;");
        Check.is(36, "dropStation from a station without a distance", 2, () -> x.dropStation(0));
        Check.same("it stands loaded", "a:1", Check.trains(x));
        ParcelRailway y = Check.loaded(text + "close c d;run 1;");
        Check.is(34, "no station ahead has a distance", 0, () -> y.parcelStation(0));
        Check.is(40, "loadingObstacle", 3, () -> y.loadingObstacle(0, 0));
        // A drop station is kept though the tracks change.
        x.setTrackOpen(0, 1, true);
        x.setTrackOpen(2, 3, false);
        x.pass(4);
        Check.is(34, "the parcel is let off at its drop station all the same", 2, () -> x.parcelStation(0));
        Check.is(37, "transfers", 1, () -> x.transfers(0));
        Check.is(39, "deliveryClock", -1, () -> x.deliveryClock(0));
    }

    private static void everyStopAtTheStationCounts() {
        // b occurs twice; the parcel is let off at the first stop there.
        ParcelRailway x = Check.loaded("stop a;request b;stop c;track a b 1;track b c 1;train 1 a b c b a;parcel a b 2;run 2;");
        Check.is(39, "deliveryClock", 2, () -> x.deliveryClock(0));
        x.pass(1);
        Check.same("the position is the first b", "b>c:0", Check.trains(x));
        x.pass(3);
        Check.same("the position is the second b", "b>a:0", Check.trains(x));
        Check.is(30, "stopsPassed", 1, () -> x.stopsPassed(0));
    }

    private static void directionAfterReversal() {
        // At the end c the train counts what lies ahead on the way back.
        ParcelRailway x = Check.loaded(LINE + "train 1 a b c;parcel c b 1;run 6;");
        Check.is(40, "loadingObstacle after the reversal", 0, () -> x.loadingObstacle(0, 0));
        Check.is(25, "nextStation", 1, () -> x.nextStation(0));
        x.pass(4);
        Check.is(39, "deliveryClock", 10, () -> x.deliveryClock(0));
    }

    private static void turns() {
        // The lower number loads first; both stand at a.
        ParcelRailway x = Check.loaded("stop a;stop b;track a b 1;train 1 a b;train 1 a b;parcel a b 1;parcel a b 2;parcel a b 3;run 1;");
        Check.is(35, "train 0 takes the greatest priority", 0, () -> x.parcelTrain(2));
        Check.is(35, "train 1 takes the next", 1, () -> x.parcelTrain(1));
        Check.is(35, "the last one waits", -1, () -> x.parcelTrain(0));
        Check.is(53, "pass counts what is delivered in it", 2, () -> x.pass(1));
        Check.is(53, "pass", 0, () -> x.pass(2));
        Check.is(53, "pass", 1, () -> x.pass(2));
        Check.is(35, "parcelTrain of a delivered parcel", -1, () -> x.parcelTrain(0));
        Check.is(34, "parcelStation of a delivered parcel", -1, () -> x.parcelStation(0));
        Check.is(36, "dropStation of a delivered parcel", -1, () -> x.dropStation(0));
        Check.is(37, "transfers of a delivered parcel", 0, () -> x.transfers(0));
    }

    private static void heldByClock() {
        String text = "stop a;stop b;stop c;track a b 1;track b c 1;train 1 a b;parcel a c 1;inspect b 2;run 2;";
        ParcelRailway x = Check.loaded(text);
        Check.holds(38, "isHeld", true, () -> x.isHeld(0));
        Check.is(14, "waitingCount counts held parcels", 1, () -> x.waitingCount(1));
        Check.is(15, "waitingParcel shows held parcels", 0, () -> x.waitingParcel(1, 0));
        Check.is(40, "loadingObstacle of a held parcel", 2, () -> x.loadingObstacle(0, 0));
        x.setInspection(1, 0);
        Check.holds(38, "isHeld is not affected by setInspection", true, () -> x.isHeld(0));
        x.pass(1);
        Check.holds(38, "isHeld", true, () -> x.isHeld(0));
        x.pass(1);
        Check.holds(38, "isHeld", false, () -> x.isHeld(0));
    }

    private static void heldParcelsTakeNoRoom() {
        String text = "stop a;stop b;stop c;track a b 1;track b c 1;train 1 a b;parcel a c 9;inspect b 9;run 3;train 1 b c;";
        ParcelRailway x = Check.loaded(text + "parcel b c 1;");
        Check.is(40, "loadingObstacle of the held parcel", 2, () -> x.loadingObstacle(1, 0));
        Check.is(40, "loadingObstacle behind a held parcel", 0, () -> x.loadingObstacle(1, 1));
        x.pass(1);
        Check.is(35, "the free one is loaded", 1, () -> x.parcelTrain(1));
        ParcelRailway y = Check.loaded("stop a;stop b;track a b 1;train 1 a b;stop c;track a c 1;parcel a c 9;parcel a b 1;");
        Check.is(40, "loadingObstacle behind a parcel without drop station", 0, () -> y.loadingObstacle(0, 1));
        Check.is(40, "loadingObstacle without drop station", 3, () -> y.loadingObstacle(0, 0));
        y.pass(1);
        Check.is(35, "it is loaded", 0, () -> y.parcelTrain(1));
    }

    public static void main(String[] args) {
        thereAndBack();
        closedTracks();
        loadsWhereItStands();
        requestStops();
        endsByPosition();
        heldParcelsDoNotStopTrains();
        inspectionOfZero();
        sameMinuteHandOver();
        transferToAnArrivingTrain();
        orderOfLoading();
        orderFromTheFirstNumber();
        heldAtTheFirstStation();
        dropStations();
        withoutDistance();
        everyStopAtTheStationCounts();
        directionAfterReversal();
        turns();
        heldByClock();
        heldParcelsTakeNoRoom();
        Check.finish("MinuteTest");
    }
}

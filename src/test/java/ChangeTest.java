/** Promises 53 to 58: the methods that change the state. */
public final class ChangeTest {
    private static final Class<IndexOutOfBoundsException> NO_INDEX = IndexOutOfBoundsException.class;
    private static final Class<IllegalArgumentException> BAD_ARGUMENT = IllegalArgumentException.class;
    private static final Class<IllegalStateException> BAD_STATE = IllegalStateException.class;
    private static final int[] NO_STATIONS = {-1, 4, Integer.MIN_VALUE, Integer.MAX_VALUE};

    private static void passing() {
        ParcelRailway x = new ParcelRailway();
        for (int minutes : new int[] {0, -1, 61, Integer.MIN_VALUE, Integer.MAX_VALUE}) {
            Check.fails(53, "pass(" + minutes + ")", BAD_ARGUMENT, () -> x.pass(minutes));
        }
        Check.is(7, "the clock has not moved", 4, x::clock);
        Check.is(65, "undoDepth after refusals", 0, x::undoDepth);
        Check.is(53, "pass(1)", 0, () -> x.pass(1));
        Check.is(53, "pass(1)", 1, () -> x.pass(1));
        Check.is(53, "pass(60)", 3, () -> x.pass(60));
        Check.is(53, "pass(60) when all are delivered", 0, () -> x.pass(60));
        Check.is(7, "clock", 126, x::clock);
        Check.is(41, "deliveredCount", 4, x::deliveredCount);
        ParcelRailway empty = Check.loaded("");
        Check.is(53, "pass(7) in an empty state", 0, () -> empty.pass(7));
        Check.is(7, "clock", 7, empty::clock);
    }

    private static void adding() {
        ParcelRailway x = new ParcelRailway();
        for (int station : NO_STATIONS) {
            Check.fails(54, "addParcel from " + station, NO_INDEX, () -> x.addParcel(station, 0, 0));
            Check.fails(54, "addParcel to " + station, NO_INDEX, () -> x.addParcel(0, station, 10));
            Check.fails(54, "addParcel from and to " + station, NO_INDEX, () -> x.addParcel(station, station, 1));
        }
        for (int priority : new int[] {0, 10, -1, Integer.MIN_VALUE, Integer.MAX_VALUE}) {
            Check.fails(54, "addParcel of priority " + priority, BAD_ARGUMENT, () -> x.addParcel(0, 1, priority));
        }
        Check.fails(54, "addParcel to its origin", BAD_ARGUMENT, () -> x.addParcel(3, 3, 1));
        Check.is(11, "parcelCount after refusals", 4, x::parcelCount);
        Check.is(65, "undoDepth after refusals", 0, x::undoDepth);
        for (int number = 4; number < 12; number++) {
            int n = number;
            Check.is(54, "addParcel", n, () -> x.addParcel(3, n % 3, n % 9 + 1));
            Check.is(31, "origin", 3, () -> x.origin(n));
            Check.is(32, "destination", n % 3, () -> x.destination(n));
            Check.is(33, "priority", n % 9 + 1, () -> x.priority(n));
            Check.is(34, "parcelStation", 3, () -> x.parcelStation(n));
            Check.is(35, "parcelTrain", -1, () -> x.parcelTrain(n));
            Check.is(36, "dropStation", -1, () -> x.dropStation(n));
            Check.is(37, "transfers", 0, () -> x.transfers(n));
            Check.holds(38, "isHeld", false, () -> x.isHeld(n));
            Check.is(39, "deliveryClock", -1, () -> x.deliveryClock(n));
            Check.is(11, "parcelCount", n + 1, x::parcelCount);
        }
        Check.fails(54, "addParcel of a 13th", BAD_STATE, () -> x.addParcel(0, 1, 1));
        Check.fails(54, "addParcel of a 13th, same stations", BAD_ARGUMENT, () -> x.addParcel(1, 1, 1));
        Check.fails(54, "addParcel of a 13th, no priority", BAD_ARGUMENT, () -> x.addParcel(0, 1, 0));
        Check.fails(54, "addParcel of a 13th, no station", NO_INDEX, () -> x.addParcel(0, 4, 0));
        Check.is(65, "undoDepth", 8, x::undoDepth);
        x.undo();
        Check.is(54, "addParcel where an undone one was", 11, () -> x.addParcel(0, 3, 9));
    }

    private static void noInspectionForNewParcels() {
        ParcelRailway x = Check.loaded("stop a;stop b;track a b 1;train 1 a b;inspect a 9;parcel a b 1;");
        Check.holds(38, "isHeld of a parcel at its origin", false, () -> x.isHeld(0));
        x.addParcel(0, 1, 2);
        Check.holds(38, "isHeld of a new parcel at its origin", false, () -> x.isHeld(1));
        x.pass(1);
        Check.is(35, "parcelTrain of the new parcel", 0, () -> x.parcelTrain(1));
    }

    private static void tracks() {
        ParcelRailway x = new ParcelRailway();
        for (int station : NO_STATIONS) {
            Check.fails(55, "setTrackOpen from " + station, NO_INDEX, () -> x.setTrackOpen(station, 0, true) ? 1 : 0);
            Check.fails(55, "setTrackOpen to " + station, NO_INDEX, () -> x.setTrackOpen(0, station, true) ? 1 : 0);
        }
        Check.fails(55, "setTrackOpen(0, 2)", BAD_ARGUMENT, () -> x.setTrackOpen(0, 2, false) ? 1 : 0);
        Check.fails(55, "setTrackOpen(1, 1)", BAD_ARGUMENT, () -> x.setTrackOpen(1, 1, false) ? 1 : 0);
        Check.is(65, "undoDepth after refusals", 0, x::undoDepth);
        Check.holds(55, "setTrackOpen(2, 1, false) of an open track", true, () -> x.setTrackOpen(2, 1, false));
        Check.holds(17, "isTrackOpen(1, 2)", false, () -> x.isTrackOpen(1, 2));
        Check.holds(17, "isTrackOpen(0, 1)", true, () -> x.isTrackOpen(0, 1));
        Check.is(18, "distance(0, 2)", -1, () -> x.distance(0, 2));
        Check.holds(55, "setTrackOpen(1, 2, false) of a closed track", false, () -> x.setTrackOpen(1, 2, false));
        Check.is(65, "undoDepth counts a call that changes nothing", 2, x::undoDepth);
        Check.holds(55, "setTrackOpen(1, 2, true) of a closed track", false, () -> x.setTrackOpen(1, 2, true));
        Check.holds(17, "isTrackOpen(2, 1)", true, () -> x.isTrackOpen(2, 1));
        Check.is(18, "distance(0, 2)", 5, () -> x.distance(0, 2));
        Check.holds(55, "setTrackOpen(1, 2, true) of an open track", true, () -> x.setTrackOpen(1, 2, true));
        x.setTrackOpen(1, 2, false);
        x.pass(2);
        Check.is(24, "a train on the track is not affected", 2, () -> x.trainStation(0));
    }

    private static void priorities() {
        ParcelRailway x = new ParcelRailway();
        for (int parcel : NO_STATIONS) {
            Check.fails(56, "setPriority of " + parcel, NO_INDEX, () -> x.setPriority(parcel, 0));
        }
        for (int priority : new int[] {0, 10, -9, Integer.MIN_VALUE, Integer.MAX_VALUE}) {
            Check.fails(56, "setPriority to " + priority, BAD_ARGUMENT, () -> x.setPriority(0, priority));
        }
        Check.is(65, "undoDepth after refusals", 0, x::undoDepth);
        Check.is(56, "setPriority(1, 1)", 7, () -> x.setPriority(1, 1));
        Check.is(56, "setPriority(1, 9)", 1, () -> x.setPriority(1, 9));
        Check.is(33, "priority(1)", 9, () -> x.priority(1));
        Check.is(33, "priority(0)", 5, () -> x.priority(0));
        Check.is(56, "setPriority of a delivered parcel", 5, () -> {
            x.pass(2);
            return x.setPriority(0, 4);
        });
        ParcelRailway y = Check.loaded("stop a;stop b;track a b 1;train 1 a b;parcel a b 4;parcel a b 4;");
        Check.is(15, "waitingParcel(0, 0)", 0, () -> y.waitingParcel(0, 0));
        y.setPriority(1, 5);
        Check.is(15, "waitingParcel(0, 0) after setPriority", 1, () -> y.waitingParcel(0, 0));
        y.pass(1);
        Check.is(35, "the greater priority is loaded", 0, () -> y.parcelTrain(1));
    }

    private static void inspections() {
        ParcelRailway x = new ParcelRailway();
        for (int station : NO_STATIONS) {
            Check.fails(57, "setInspection of " + station, NO_INDEX, () -> x.setInspection(station, 10));
        }
        for (int minutes : new int[] {-1, 10, Integer.MIN_VALUE, Integer.MAX_VALUE}) {
            Check.fails(57, "setInspection to " + minutes, BAD_ARGUMENT, () -> x.setInspection(0, minutes));
        }
        Check.is(65, "undoDepth after refusals", 0, x::undoDepth);
        Check.is(57, "setInspection(2, 9)", 2, () -> x.setInspection(2, 9));
        Check.is(57, "setInspection(2, 0)", 9, () -> x.setInspection(2, 0));
        Check.is(57, "setInspection(2, 5)", 0, () -> x.setInspection(2, 5));
        Check.is(13, "inspectionTime(2)", 5, () -> x.inspectionTime(2));
        x.pass(2);
        Check.holds(38, "isHeld of parcel 1 at c", true, () -> x.isHeld(1));
        x.pass(4);
        Check.holds(38, "isHeld after four minutes", true, () -> x.isHeld(1));
        x.pass(1);
        Check.holds(38, "isHeld after five minutes", false, () -> x.isHeld(1));
    }

    private static void withdrawing() {
        ParcelRailway x = new ParcelRailway();
        for (int parcel : NO_STATIONS) {
            Check.fails(58, "withdraw(" + parcel + ")", NO_INDEX, () -> x.withdraw(parcel));
        }
        Check.fails(58, "withdraw of a parcel on a train", BAD_STATE, () -> x.withdraw(0));
        Check.is(65, "undoDepth after refusals", 0, x::undoDepth);
        Check.is(58, "withdraw away from the origin", 3, () -> x.withdraw(3));
        Check.is(31, "origin(3)", 2, () -> x.origin(3));
        Check.is(32, "destination(3)", 3, () -> x.destination(3));
        Check.is(34, "parcelStation(3)", 2, () -> x.parcelStation(3));
        Check.is(37, "transfers(3)", 1, () -> x.transfers(3));
        Check.is(58, "withdraw again: it waits at its origin now", -1, () -> x.withdraw(3));
        Check.is(39, "deliveryClock(3)", 4, () -> x.deliveryClock(3));
        Check.is(34, "parcelStation(3)", -1, () -> x.parcelStation(3));
        Check.is(31, "origin(3)", 2, () -> x.origin(3));
        Check.is(32, "destination(3)", 3, () -> x.destination(3));
        Check.fails(58, "withdraw of a delivered parcel", BAD_STATE, () -> x.withdraw(3));
        Check.is(58, "withdraw at the origin", -1, () -> x.withdraw(2));
        Check.is(41, "deliveredCount", 2, x::deliveredCount);
        Check.is(14, "waitingCount(1)", 0, () -> x.waitingCount(1));
        Check.is(42, "parcelBalance", 0, x::parcelBalance);
        Check.is(43, "loadingBalance", 0, x::loadingBalance);
        x.pass(2);
        Check.holds(38, "isHeld(1)", true, () -> x.isHeld(1));
        Check.is(58, "withdraw of a held parcel", 0, () -> x.withdraw(1));
        Check.holds(38, "isHeld after withdraw", false, () -> x.isHeld(1));
        Check.is(40, "it can be loaded at once", 0, () -> x.loadingObstacle(0, 1));
        x.pass(5);
        Check.is(34, "it has not arrived yet", -1, () -> x.parcelStation(1));
        x.pass(2);
        Check.is(39, "deliveryClock of the parcel that returned", 12, () -> x.deliveryClock(1));
    }

    public static void main(String[] args) {
        passing();
        adding();
        noInspectionForNewParcels();
        tracks();
        priorities();
        inspections();
        withdrawing();
        Check.finish("ChangeTest");
    }
}

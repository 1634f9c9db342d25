/** Promises 62 to 65: slots and undo. */
public final class MemoryTest {
    private static final Class<IndexOutOfBoundsException> NO_INDEX = IndexOutOfBoundsException.class;
    private static final Class<IllegalStateException> BAD_STATE = IllegalStateException.class;

    private static void slots() {
        ParcelRailway x = new ParcelRailway();
        for (int slot : new int[] {-1, 2, Integer.MIN_VALUE, Integer.MAX_VALUE}) {
            Check.fails(62, "save(" + slot + ")", NO_INDEX, () -> x.save(slot));
            Check.fails(63, "restore(" + slot + ")", NO_INDEX, () -> x.restore(slot));
        }
        Check.fails(63, "restore of an empty slot", BAD_STATE, () -> x.restore(0));
        Check.fails(63, "restore of an empty slot", BAD_STATE, () -> x.restore(1));
        String first = Snapshot.brief(x);
        Check.is(62, "save(1)", 4, () -> x.save(1));
        Check.is(65, "save is not remembered", 0, x::undoDepth);
        Check.fails(63, "restore of the other slot", BAD_STATE, () -> x.restore(0));
        x.pass(2);
        x.setTrackOpen(2, 3, false);
        x.setInspection(0, 7);
        x.withdraw(1);
        x.pass(3);
        String later = Snapshot.brief(x);
        Check.is(62, "save(0)", 9, () -> x.save(0));
        Check.is(63, "restore(1)", 4, () -> x.restore(1));
        Check.same("the restored state", first, Snapshot.brief(x));
        x.pass(9);
        x.addParcel(0, 1, 1);
        Check.is(63, "restore(1) keeps its content", 4, () -> x.restore(1));
        Check.same("the restored state", first, Snapshot.brief(x));
        Check.is(63, "restore(0)", 9, () -> x.restore(0));
        Check.same("the restored state", later, Snapshot.brief(x));
        Check.is(65, "undoDepth", 8, x::undoDepth);
    }

    private static void slotsOutliveLoad() {
        ParcelRailway x = new ParcelRailway();
        x.save(1);
        String first = Snapshot.brief(x);
        x.pass(5);
        String later = Snapshot.brief(x);
        Check.load(x, "stop a;run 3;");
        String loaded = Snapshot.brief(x);
        Check.is(63, "slots outlive load", 4, () -> x.restore(1));
        Check.same("the restored state", first, Snapshot.brief(x));
        Check.is(64, "undo of restore", 2, x::undo);
        Check.same("the state before restore", loaded, Snapshot.brief(x));
        Check.is(62, "save discards the old content", 3, () -> x.save(1));
        Check.is(63, "restore(1)", 3, () -> x.restore(1));
        Check.same("the restored state", loaded, Snapshot.brief(x));
        x.undo();
        x.undo();
        Check.same("the state before load", later, Snapshot.brief(x));
        Check.is(63, "undo does not change the slots", 3, () -> x.restore(1));
    }

    private static void undoing() {
        ParcelRailway x = new ParcelRailway();
        Check.fails(64, "undo of nothing", BAD_STATE, x::undo);
        Runnable[] changes = {
            () -> x.pass(2), () -> x.addParcel(2, 0, 9), () -> x.setTrackOpen(1, 2, false), () -> x.setPriority(3, 9),
            () -> x.setInspection(2, 6), () -> x.withdraw(3), () -> Check.load(x, "stop q;stop r;track q r 3;run 2;"),
            () -> x.restore(0)};
        x.save(0);
        String[] before = new String[changes.length + 1];
        for (int i = 0; i < changes.length; i++) {
            int depth = i;
            Check.is(65, "undoDepth", depth, x::undoDepth);
            before[i] = Snapshot.brief(x);
            changes[i].run();
        }
        Check.is(65, "undoDepth", 8, x::undoDepth);
        for (int i = changes.length - 1; i >= 0; i--) {
            int left = i;
            Check.is(64, "undo", left, x::undo);
            Check.same("the state before change " + i, before[i], Snapshot.brief(x));
            Check.is(65, "undoDepth", left, x::undoDepth);
        }
        Check.fails(64, "undo of nothing", BAD_STATE, x::undo);
        Check.is(65, "undoDepth", 0, x::undoDepth);
    }

    private static void onlyEight() {
        ParcelRailway x = new ParcelRailway();
        for (int i = 1; i <= 20; i++) {
            int depth = Math.min(i, 8);
            x.pass(i);
            Check.is(65, "undoDepth", depth, x::undoDepth);
        }
        int clock = 4 + 20 * 21 / 2;
        for (int i = 20; i > 12; i--) {
            int left = i - 13;
            clock -= i;
            int due = clock;
            Check.is(64, "undo", left, x::undo);
            Check.is(64, "clock after undo", due, x::clock);
        }
        Check.fails(64, "undo of a ninth call", BAD_STATE, x::undo);
        Check.is(64, "clock", 4 + 12 * 13 / 2, x::clock);
        x.pass(1);
        Check.is(65, "undoDepth", 1, x::undoDepth);
        x.pass(1);
        x.undo();
        x.pass(5);
        Check.is(65, "undoDepth", 2, x::undoDepth);
        x.undo();
        Check.is(64, "clock after the undo of a call after an undo", 83, x::clock);
    }

    private static void refusedCallsAreNotRemembered() {
        ParcelRailway x = new ParcelRailway();
        x.pass(1);
        String before = Snapshot.state(x);
        Check.fails(53, "pass(0)", IllegalArgumentException.class, () -> x.pass(0));
        Check.fails(54, "addParcel", IllegalArgumentException.class, () -> x.addParcel(0, 0, 1));
        Check.fails(55, "setTrackOpen", IllegalArgumentException.class, () -> x.setTrackOpen(0, 2, false) ? 1 : 0);
        Check.fails(56, "setPriority", IllegalArgumentException.class, () -> x.setPriority(0, 10));
        Check.fails(57, "setInspection", IllegalArgumentException.class, () -> x.setInspection(0, 10));
        Check.fails(58, "withdraw", BAD_STATE, () -> x.withdraw(0));
        Check.fails(63, "restore", BAD_STATE, () -> x.restore(0));
        Check.append(x, "run 61;");
        Check.fails(4, "load", IllegalArgumentException.class, x::load);
        Check.is(65, "undoDepth", 1, x::undoDepth);
        Check.same("the state after refusals", before, Snapshot.state(x));
        x.undo();
        Check.is(5, "undo does not change the error code", 2, x::errorCode);
        Check.is(6, "undo does not change the error position", 4, x::errorPosition);
    }

    private static void whatIsNoState() {
        ParcelRailway x = new ParcelRailway();
        x.pass(1);
        x.save(0);
        x.appendInput(0x73746F70, 0x20613B20, 0x20202020, 0x20202020, 0x20202020);
        x.undo();
        x.restore(0);
        Check.is(2, "undo and restore do not change the input buffer", 20, () -> x.truncateInput(20));
        Check.is(4, "load", 1, x::load);
    }

    private static void questionsChangeNothing() {
        ParcelRailway x = new ParcelRailway();
        x.pass(1);
        String before = Snapshot.state(x);
        x.minutesToDelivery(0);
        x.minutesToFinish();
        x.minutesToStop(0);
        x.trainStationAfter(0, 50);
        x.deliveredAfter(50);
        x.deliveredIfClosed(0, 1, 50);
        x.worstClosure();
        x.writeTrains();
        x.writeParcels();
        Check.same("the state after questions", before, Snapshot.state(x));
        Check.is(65, "undoDepth", 1, x::undoDepth);
    }

    public static void main(String[] args) {
        slots();
        slotsOutliveLoad();
        undoing();
        onlyEight();
        refusedCallsAreNotRemembered();
        whatIsNoState();
        questionsChangeNothing();
        Check.finish("MemoryTest");
    }
}

import java.util.ArrayList;
import java.util.List;
import java.util.function.Consumer;

/** Section 6 of the document: the state, undo, exceptions and the first state. */
final class StateSentences extends Sentences {
    private static final String TWO = "stop a;stop b;track a b 1;";
    /** Train 0 takes two parcels to c in minute 3 and passes b twice; train 1 waits for its track; train 2 goes to and fro. */
    static final String BUSY = "stop a;request b;stop c;stop d;track a b 1;track b c 1;track c d 4;track a d 9;close a d;"
            + "inspect c 6;train 2 a b c;train 1 a d;train 1 a b;parcel a d 8;parcel a c 3;parcel a d 1;run 4;parcel b c 2;run 1;";

    /** A call by name; what it answers does not matter. */
    private static final class Named {
        final String name;
        final Consumer<ParcelRailway> call;

        Named(String name, Consumer<ParcelRailway> call) {
            this.name = name;
            this.call = call;
        }
    }

    static void tell() {
        under("Terms 6");
        whatTheStateIs();
        remembering();
        whatIsNoState();
        refusals();
        precedence();
        questions();
        beginning();
    }

    /** A railway in which all that a call could change holds something. */
    private static ParcelRailway rich() {
        ParcelRailway x = new ParcelRailway();
        Check.append(x, "stop a;run 61;");
        try {
            x.load();
        } catch (IllegalArgumentException e) {
            // The error is part of what is compared.
        }
        x.save(0);
        x.pass(1);
        x.setPriority(3, 2);
        x.setInspection(0, 3);
        x.writeParcels();
        Check.append(x, "stop q;request r;");
        return x;
    }

    /** The call may throw or not; it must not change anything that the railway holds. */
    private static void changesNothing(Named named, boolean isRefused) {
        ParcelRailway x = rich();
        boolean threw = false;
        try {
            named.call.accept(x);
        } catch (RuntimeException e) {
            threw = true;
        }
        boolean hasThrown = threw;
        holds(named.name + " throws", isRefused, () -> hasThrown);
        same("what the railway holds after " + named.name, Snapshot.everything(rich()), Snapshot.everything(x));
    }

    private static List<Named> changes() {
        List<Named> list = new ArrayList<>();
        list.add(new Named("load", x -> Check.load(x, "")));
        list.add(new Named("pass", x -> x.pass(1)));
        list.add(new Named("addParcel", x -> x.addParcel(0, 1, 1)));
        list.add(new Named("setTrackOpen", x -> x.setTrackOpen(0, 1, false)));
        list.add(new Named("setPriority", x -> x.setPriority(0, 9)));
        list.add(new Named("setInspection", x -> x.setInspection(0, 9)));
        list.add(new Named("withdraw", x -> x.withdraw(2)));
        list.add(new Named("restore", x -> x.restore(0)));
        return list;
    }

    private static ParcelRailway passedAndSaved() {
        ParcelRailway x = new ParcelRailway();
        x.pass(2);
        x.save(0);
        x.pass(3);
        return x;
    }

    private static void whatTheStateIs() {
        says("The state consists of the clock, the stations, the tracks, the trains, the parcels and all numbers about them.",
                () -> {
            String before = Snapshot.state(passedAndSaved());
            for (Named change : changes()) {
                ParcelRailway changed = passedAndSaved();
                change.call.accept(changed);
                holds(change.name + " changes the state", false, () -> before.equals(Snapshot.state(changed)));
                ParcelRailway undone = passedAndSaved();
                change.call.accept(undone);
                undone.undo();
                same("the state after undo of " + change.name, before, Snapshot.state(undone));
            }
            ParcelRailway x = loaded(BUSY);
            checkBusy(x);
            x.save(1);
            Check.load(x, "request x;stop y;stop z;track y z 2;train 1 z y;train 3 y z y;parcel x z 1;parcel y z 1;run 5;");
            x.undo();
            checkBusy(x);
            x.addParcel(2, 0, 9);
            x.pass(60);
            x.setTrackOpen(0, 1, false);
            x.restore(1);
            checkBusy(x);
        });
    }

    /** All numbers that a state holds, worked out by hand for BUSY. */
    private static void checkBusy(ParcelRailway x) {
        is("clock", 5, x::clock);
        is("stationCount", 4, x::stationCount);
        is("trackCount", 4, x::trackCount);
        is("trainCount", 3, x::trainCount);
        is("parcelCount", 4, x::parcelCount);
        holds("isRequestStop(1)", true, () -> x.isRequestStop(1));
        holds("isRequestStop(2)", false, () -> x.isRequestStop(2));
        is("inspectionTime(2)", 6, () -> x.inspectionTime(2));
        is("travelTime(2, 3)", 4, () -> x.travelTime(2, 3));
        holds("isTrackOpen(0, 3)", false, () -> x.isTrackOpen(0, 3));
        is("distance(0, 3)", 6, () -> x.distance(0, 3));
        holds("isTrackOpen(0, 1)", true, () -> x.isTrackOpen(0, 1));
        is("distance(0, 2)", 2, () -> x.distance(0, 2));
        is("capacity(0)", 2, () -> x.capacity(0));
        is("routeLength(1)", 2, () -> x.routeLength(1));
        is("routeStation(0, 2)", 2, () -> x.routeStation(0, 2));
        holds("isForward(0)", false, () -> x.isForward(0));
        is("minutesToNext(0)", 1, () -> x.minutesToNext(0));
        is("delay(1)", 5, () -> x.delay(1));
        is("stopsMade(0)", 1, () -> x.stopsMade(0));
        is("stopsPassed(0)", 2, () -> x.stopsPassed(0));
        is("priority(0)", 8, () -> x.priority(0));
        is("origin(3)", 1, () -> x.origin(3));
        is("destination(3)", 2, () -> x.destination(3));
        is("transfers(0)", 1, () -> x.transfers(0));
        holds("isHeld(0)", true, () -> x.isHeld(0));
        is("deliveryClock(1)", 3, () -> x.deliveryClock(1));
        is("dropStation(2)", 3, () -> x.dropStation(2));
        same("the trains", "b>a:0 a:1 a>b:0", Check.trains(x));
        same("the parcels", "@c = #1 @b", Check.parcels(x));
    }

    private static void remembering() {
        says("Undoable methods are load if the text has no error", () -> {
            ParcelRailway x = new ParcelRailway();
            Check.load(x, "stop a;");
            is("undoDepth after load", 1, x::undoDepth);
            Check.append(x, "stop a;stop a;");
            fails("load of a text with an error", BAD_ARGUMENT, x::load);
            is("undoDepth after a load with an error", 1, x::undoDepth);
        });
        says("and pass, addParcel, setTrackOpen, setPriority, setInspection, withdraw and restore if they throw no exception.",
                () -> {
            for (Named change : changes()) {
                ParcelRailway x = new ParcelRailway();
                x.save(0);
                is("undoDepth before " + change.name, 0, x::undoDepth);
                change.call.accept(x);
                is("undoDepth after " + change.name, 1, x::undoDepth);
            }
            ParcelRailway x = rich();
            for (Named refusal : refusedChanges()) {
                try {
                    refusal.call.accept(x);
                } catch (RuntimeException e) {
                    // That they throw is checked elsewhere.
                }
                is("undoDepth after a refused " + refusal.name, 3, x::undoDepth);
            }
        });
        says("The latest 8 undoable calls are remembered;", () -> {
            ParcelRailway x = new ParcelRailway();
            for (int minutes = 1; minutes <= 9; minutes++) {
                int due = Math.min(minutes, 8);
                x.pass(minutes);
                is("undoDepth", due, x::undoDepth);
            }
            for (int left = 7; left >= 0; left--) {
                int due = left;
                is("undo", due, x::undo);
            }
            fails("undo of a 9th", BAD_STATE, x::undo);
            is("clock: the call that is not remembered is not undone", 5, x::clock);
            for (int minutes = 1; minutes <= 25; minutes++) {
                x.pass(1);
            }
            x.undo();
            x.undo();
            x.pass(60);
            is("undoDepth after two were undone and one followed", 7, x::undoDepth);
            x.undo();
            is("clock", 28, x::clock);
            for (int left = 6; left > 0; left--) {
                x.undo();
            }
            is("clock after all were undone", 22, x::clock);
            is("undoDepth", 0, x::undoDepth);
        });
        says("load does not discard them.", () -> {
            ParcelRailway x = new ParcelRailway();
            x.pass(1);
            x.addParcel(0, 1, 1);
            Check.load(x, "stop a;");
            is("undoDepth after load", 3, x::undoDepth);
            Check.load(x, "");
            is("undo", 3, x::undo);
            is("undo", 2, x::undo);
            is("parcelCount", 5, x::parcelCount);
            is("undo", 1, x::undo);
            is("parcelCount", 4, x::parcelCount);
            is("undo", 0, x::undo);
            is("clock", 4, x::clock);
        });
        says("Undo restores the state before the latest remembered call.", () -> {
            ParcelRailway x = new ParcelRailway();
            x.pass(1);
            String before = Snapshot.state(x);
            x.pass(20);
            x.undo();
            same("the state", before, Snapshot.state(x));
        });
    }

    private static void whatIsNoState() {
        says("The input buffer, the error, the output and the slots are not part of the state.", () -> {
            ParcelRailway x = new ParcelRailway();
            x.pass(1);
            x.save(0);
            x.pass(1);
            x.save(1);
            Check.append(x, "?");
            fails("load", BAD_ARGUMENT, x::load);
            Check.append(x, "stop q;");
            x.writeTrains();
            String output = Check.output(x, x.writeParcels());
            x.undo();
            is("errorCode after undo", 1, x::errorCode);
            is("errorPosition after undo", 0, x::errorPosition);
            same("the output after undo", output, Check.output(x, output.length()));
            is("restore(1) after undo", 6, () -> x.restore(1));
            is("restore(0)", 5, () -> x.restore(0));
            is("errorCode after restore", 1, x::errorCode);
            same("the output after restore", output, Check.output(x, output.length()));
            fails("truncateInput(8) after undo and restore", BAD_ARGUMENT, () -> x.truncateInput(8));
            is("truncateInput(7)", 7, () -> x.truncateInput(7));
            is("load", 1, x::load);
            same("the output after load", output, Check.output(x, output.length()));
            is("restore(1) after load", 6, () -> x.restore(1));
            ParcelRailway y = new ParcelRailway();
            y.save(0);
            y.pass(1);
            y.load();
            y.undo();
            is("undo of load does not give the text back: truncateInput(0)", 0, () -> y.truncateInput(0));
            fails("truncateInput(1)", BAD_ARGUMENT, () -> y.truncateInput(1));
        });
    }

    private static List<Named> refusedChanges() {
        List<Named> list = new ArrayList<>();
        list.add(new Named("appendInput", x -> {
            for (int i = 0; i < 31; i++) {
                x.appendInput(0x20202020, 0x20202020, 0x20202020, 0x20202020, 0x20202020);
            }
        }));
        list.add(new Named("truncateInput(-1)", x -> x.truncateInput(-1)));
        list.add(new Named("truncateInput(18)", x -> x.truncateInput(18)));
        list.add(new Named("pass(0)", x -> x.pass(0)));
        list.add(new Named("pass(61)", x -> x.pass(61)));
        list.add(new Named("addParcel(4, 0, 1)", x -> x.addParcel(4, 0, 1)));
        list.add(new Named("addParcel(0, 4, 1)", x -> x.addParcel(0, 4, 1)));
        list.add(new Named("addParcel(0, 0, 1)", x -> x.addParcel(0, 0, 1)));
        list.add(new Named("addParcel(0, 1, 10)", x -> x.addParcel(0, 1, 10)));
        list.add(new Named("setTrackOpen(0, 4, false)", x -> x.setTrackOpen(0, 4, false)));
        list.add(new Named("setTrackOpen(0, 2, false)", x -> x.setTrackOpen(0, 2, false)));
        list.add(new Named("setPriority(4, 1)", x -> x.setPriority(4, 1)));
        list.add(new Named("setPriority(0, 0)", x -> x.setPriority(0, 0)));
        list.add(new Named("setPriority(0, 10)", x -> x.setPriority(0, 10)));
        list.add(new Named("setInspection(4, 1)", x -> x.setInspection(4, 1)));
        list.add(new Named("setInspection(0, -1)", x -> x.setInspection(0, -1)));
        list.add(new Named("setInspection(0, 10)", x -> x.setInspection(0, 10)));
        list.add(new Named("withdraw(4)", x -> x.withdraw(4)));
        list.add(new Named("withdraw(0)", x -> x.withdraw(0)));
        list.add(new Named("outputByte(11)", x -> x.outputByte(11)));
        list.add(new Named("save(2)", x -> x.save(2)));
        list.add(new Named("restore(2)", x -> x.restore(2)));
        list.add(new Named("restore(1)", x -> x.restore(1)));
        list.add(new Named("waitingParcel(0, 0)", x -> x.waitingParcel(0, 0)));
        list.add(new Named("deliveredAfter(121)", x -> x.deliveredAfter(121)));
        list.add(new Named("deliveredIfClosed(0, 1, 121)", x -> x.deliveredIfClosed(0, 1, 121)));
        list.add(new Named("trainStationAfter(0, 121)", x -> x.trainStationAfter(0, 121)));
        return list;
    }

    private static void refusals() {
        says("A method that throws an exception changes nothing", () -> {
            for (Named refusal : refusedChanges()) {
                if (!refusal.name.equals("appendInput")) {
                    changesNothing(refusal, true);
                }
            }
            ParcelRailway full = new ParcelRailway();
            Check.append(full, "stop a;" + " ".repeat(593));
            fails("appendInput to a full buffer", BAD_STATE, () -> full.appendInput(0, 0, 0, 0, 0));
            is("truncateInput(600)", 600, () -> full.truncateInput(600));
            fails("truncateInput(601)", BAD_ARGUMENT, () -> full.truncateInput(601));
            fails("truncateInput(-1)", BAD_ARGUMENT, () -> full.truncateInput(-1));
            is("load of what was there before", 1, full::load);
            ParcelRailway none = new ParcelRailway();
            fails("undo of nothing", BAD_STATE, none::undo);
            same("the state", Snapshot.state(new ParcelRailway()), Snapshot.state(none));
            ParcelRailway twelve = loaded(TWO + "parcel a b 1;".repeat(12));
            String before = Snapshot.state(twelve);
            fails("addParcel of a 13th", BAD_STATE, () -> twelve.addParcel(0, 1, 9));
            same("the state", before, Snapshot.state(twelve));
            is("undoDepth", 1, twelve::undoDepth);
        });
        says(", unless its description says otherwise.", () -> {
            ParcelRailway x = new ParcelRailway();
            Check.append(x, "stop a;?");
            fails("load", BAD_ARGUMENT, x::load);
            is("errorCode", 1, x::errorCode);
            is("errorPosition", 7, x::errorPosition);
            fails("truncateInput(1) of the buffer that is empty now", BAD_ARGUMENT, () -> x.truncateInput(1));
            same("the state", Snapshot.state(new ParcelRailway()), Snapshot.state(x));
        });
    }

    private static void precedence() {
        says("If several exceptions apply, the one that is listed first in the throws clause is thrown.", () -> {
            ParcelRailway x = loaded(TWO + "stop c;train 1 a b;" + "parcel a b 1;".repeat(12));
            fails("waitingParcel: no station and no index", NO_INDEX, () -> x.waitingParcel(3, -1));
            fails("routeStation: no train and no index", NO_INDEX, () -> x.routeStation(1, -1));
            fails("carriedParcel: no train and no index", NO_INDEX, () -> x.carriedParcel(1, -1));
            fails("trainStationAfter: no train and bad minutes", NO_INDEX, () -> x.trainStationAfter(1, 121));
            fails("deliveredIfClosed: no first station and bad minutes", NO_INDEX, () -> x.deliveredIfClosed(3, 0, 121));
            fails("deliveredIfClosed: no second station and bad minutes", NO_INDEX, () -> x.deliveredIfClosed(0, 3, -1));
            fails("deliveredIfClosed: no stations, the same", NO_INDEX, () -> x.deliveredIfClosed(-1, -1, 0));
            fails("addParcel: no station, a bad priority and 12 parcels", NO_INDEX, () -> x.addParcel(0, 3, 0));
            fails("addParcel: no stations, the same, and 12 parcels", NO_INDEX, () -> x.addParcel(3, 3, 1));
            fails("addParcel: the same stations and 12 parcels", BAD_ARGUMENT, () -> x.addParcel(0, 0, 1));
            fails("addParcel: a bad priority and 12 parcels", BAD_ARGUMENT, () -> x.addParcel(0, 1, 10));
            fails("setTrackOpen: no station, no track", NO_INDEX, () -> x.setTrackOpen(3, 3, true) ? 1 : 0);
            fails("setTrackOpen: no second station, no track", NO_INDEX, () -> x.setTrackOpen(2, -1, true) ? 1 : 0);
            fails("setPriority: no parcel and a bad priority", NO_INDEX, () -> x.setPriority(12, 0));
            fails("setInspection: no station and bad minutes", NO_INDEX, () -> x.setInspection(3, 10));
            fails("withdraw: no parcel", NO_INDEX, () -> x.withdraw(12));
            fails("restore: no slot", NO_INDEX, () -> x.restore(2));
        });
    }

    private static void questions() {
        says("Methods that ask a question change nothing.", () -> {
            List<Named> list = new ArrayList<>();
            list.add(new Named("minutesToDelivery", x -> x.minutesToDelivery(0)));
            list.add(new Named("minutesToFinish", x -> x.minutesToFinish()));
            list.add(new Named("minutesToStop", x -> x.minutesToStop(0)));
            list.add(new Named("trainStationAfter", x -> x.trainStationAfter(0, 120)));
            list.add(new Named("deliveredAfter", x -> x.deliveredAfter(120)));
            list.add(new Named("deliveredIfClosed", x -> x.deliveredIfClosed(0, 1, 120)));
            list.add(new Named("worstClosure", x -> x.worstClosure()));
            list.add(new Named("loadingObstacle", x -> x.loadingObstacle(1, 3)));
            list.add(new Named("waitingParcel", x -> x.waitingParcel(1, 0)));
            list.add(new Named("carriedParcel", x -> x.carriedParcel(0, 1)));
            list.add(new Named("distance", x -> x.distance(0, 3)));
            list.add(new Named("parcelBalance", x -> x.parcelBalance()));
            list.add(new Named("loadingBalance", x -> x.loadingBalance()));
            list.add(new Named("meanDeliveryClock", x -> x.meanDeliveryClock()));
            list.add(new Named("deliveredShare", x -> x.deliveredShare()));
            list.add(new Named("errorCode", x -> x.errorCode()));
            list.add(new Named("errorPosition", x -> x.errorPosition()));
            list.add(new Named("outputByte", x -> x.outputByte(3)));
            list.add(new Named("undoDepth", x -> x.undoDepth()));
            for (Named question : list) {
                changesNothing(question, false);
            }
        });
        says("A question about the future assumes that only minutes pass", () -> {
            ParcelRailway x = new ParcelRailway();
            ParcelRailway y = new ParcelRailway();
            int[] after = new int[10];
            for (int minutes = 0; minutes < 10; minutes++) {
                after[minutes] = x.deliveredAfter(minutes);
            }
            for (int minutes = 0; minutes < 10; minutes++) {
                int due = y.deliveredCount();
                int asked = after[minutes];
                is("deliveredAfter(" + minutes + ") asked before", due, () -> asked);
                y.pass(1);
            }
            is("the clock of the railway that was asked", 4, x::clock);
        });
        says("and it considers at most 120 minutes.", () -> {
            // A round trip takes 20 minutes; the parcels are delivered in minutes 10, 30, 50, 70, 90, 110 and 130.
            ParcelRailway x = loaded("stop a;stop b;track a b 9;train 1 a b;" + "parcel a b 1;".repeat(7) + "run 9;");
            is("minutesToDelivery in 121 minutes", -1, () -> x.minutesToDelivery(6));
            is("minutesToFinish in 121 minutes", -1, x::minutesToFinish);
            x.pass(1);
            is("minutesToDelivery in 120 minutes", 120, () -> x.minutesToDelivery(6));
            is("minutesToFinish in 120 minutes", 120, x::minutesToFinish);
            is("deliveredAfter(120)", 7, () -> x.deliveredAfter(120));
            fails("deliveredAfter(121)", BAD_ARGUMENT, () -> x.deliveredAfter(121));
            fails("trainStationAfter(0, 121)", BAD_ARGUMENT, () -> x.trainStationAfter(0, 121));
            fails("deliveredIfClosed(0, 1, 121)", BAD_ARGUMENT, () -> x.deliveredIfClosed(0, 1, 121));
        });
    }

    private static void beginning() {
        String text = "stop a;request b;stop c;request d;track a b 2;track b c 3;track c d 1;train 2 a b c;train 1 d c;"
                + "parcel a c 5;parcel a d 7;parcel b a 3;parcel d b 1;inspect c 2;run 4;";
        says("Before the first successful load the state is that of the text \"" + text + "\".", () -> {
            ParcelRailway x = new ParcelRailway();
            same("the first state", Snapshot.state(loaded(text)), Snapshot.state(x));
            Check.append(x, "stop a;stop a;");
            fails("load of a text with an error", BAD_ARGUMENT, x::load);
            same("the state after it", Snapshot.state(loaded(text)), Snapshot.state(x));
            same("the trains", "b>c:2 d:0", Check.trains(x));
            same("the parcels", "#0 #0 @b @c", Check.parcels(x));
            is("clock", 4, x::clock);
        });
        says("`NONE = -1`", () -> {
            is("NONE", -1, () -> ParcelRailway.NONE);
            is("errorPosition of a new object", -1, () -> new ParcelRailway().errorPosition());
        });
        says("No such value.", () -> {
            ParcelRailway x = new ParcelRailway();
            is("travelTime without a track", ParcelRailway.NONE, () -> x.travelTime(0, 2));
            is("parcelStation of a parcel on a train", ParcelRailway.NONE, () -> x.parcelStation(0));
            is("parcelTrain of a parcel that waits", ParcelRailway.NONE, () -> x.parcelTrain(2));
        });
    }
}

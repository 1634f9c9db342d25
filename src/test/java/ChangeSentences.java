/** Promises 53 to 65: changes, the output, the slots and undo. */
final class ChangeSentences extends Sentences {
    private static final String TWO = "stop a;stop b;track a b 1;";
    private static final String LINE = "stop a;stop b;stop c;track a b 1;track b c 1;";
    /** The parcel is unloaded at b in minute 2 and held there. */
    private static final String HELD = LINE + "inspect b 5;train 1 a b;parcel a c 1;run 2;";
    private static final String NO_STATIONS = "Throws `IndexOutOfBoundsException` if one of the stations does not exist";
    private static final String NO_PARCEL = "Throws `IndexOutOfBoundsException` if the parcel does not exist";
    private static final String NO_SLOT = "Throws `IndexOutOfBoundsException` if the slot does not exist";
    private static final int[] WRONG_PRIORITIES = {0, 10, -1, 100, Integer.MIN_VALUE, Integer.MAX_VALUE};
    private static final int[] WRONG_INSPECTIONS = {-1, 10, 100, Integer.MIN_VALUE, Integer.MAX_VALUE};
    private static final int[] WRONG_SLOTS = {-1, 2, 3, Integer.MIN_VALUE, Integer.MAX_VALUE};

    static void tell() {
        passing();
        adding();
        opening();
        priorities();
        inspections();
        withdrawing();
        withdrawnAtOrigin();
        writingTrains();
        writingParcels();
        output();
        saving();
        restoring();
        undoing();
    }

    private static void passing() {
        under("Promise 53");
        says("a number of minutes, 1 to 60", () -> {
            ParcelRailway x = loaded("");
            is("pass(1)", 0, () -> x.pass(1));
            is("pass(60)", 0, () -> x.pass(60));
            is("clock", 61, x::clock);
        });
        says("Returns the number of parcels that were delivered during these minutes.", () -> {
            ParcelRailway x = loaded(TWO + "train 2 a b;" + "parcel a b 1;".repeat(5));
            is("pass(1)", 0, () -> x.pass(1));
            is("pass(1) in which two are delivered", 2, () -> x.pass(1));
            is("pass(3)", 0, () -> x.pass(3));
            is("pass(60) in which the others are", 3, () -> x.pass(60));
            is("pass(60) when all are delivered", 0, () -> x.pass(60));
        });
        says("Throws `IllegalArgumentException` if the number of minutes is out of range", () -> {
            ParcelRailway x = new ParcelRailway();
            for (int minutes : new int[] {0, 61, -1, 120, Integer.MIN_VALUE, Integer.MAX_VALUE}) {
                fails("pass(" + minutes + ")", BAD_ARGUMENT, () -> x.pass(minutes));
            }
            is("clock after refusals", 4, x::clock);
        });
    }

    private static void adding() {
        under("Promise 54");
        says("another station", () -> {
            ParcelRailway x = loaded(TWO);
            fails("addParcel(0, 0, 1)", BAD_ARGUMENT, () -> x.addParcel(0, 0, 1));
            is("addParcel(1, 0, 1)", 0, () -> x.addParcel(1, 0, 1));
        });
        says("a priority, 1 to 9", () -> {
            ParcelRailway x = loaded(TWO);
            for (int priority = 1; priority <= 9; priority++) {
                int due = priority;
                is("addParcel", due - 1, () -> x.addParcel(0, 1, due));
                is("priority", due, () -> x.priority(due - 1));
            }
        });
        says("Returns the number of the new parcel.", () -> {
            ParcelRailway x = loaded(TWO + "parcel a b 1;");
            for (int number = 1; number < 12; number++) {
                int due = number;
                is("addParcel", due, () -> x.addParcel(0, 1, 1));
            }
            x.undo();
            is("addParcel where one was undone", 11, () -> x.addParcel(1, 0, 1));
            is("origin(11)", 1, () -> x.origin(11));
        });
        says(NO_STATIONS, () -> {
            Numbers.check(54, Numbers.Kind.STATION, "addParcel from", (x, n) -> x.addParcel(n, 0, 1));
            Numbers.check(54, Numbers.Kind.STATION, "addParcel to", (x, n) -> x.addParcel(0, n, 1));
        });
        says("Throws `IllegalArgumentException` if both stations are the same", () -> {
            ParcelRailway x = loaded(TWO);
            fails("addParcel(0, 0, 1)", BAD_ARGUMENT, () -> x.addParcel(0, 0, 1));
            fails("addParcel(1, 1, 9)", BAD_ARGUMENT, () -> x.addParcel(1, 1, 9));
            is("parcelCount", 0, x::parcelCount);
        });
        says("or the priority is out of range", () -> {
            ParcelRailway x = loaded(TWO);
            for (int priority : WRONG_PRIORITIES) {
                fails("addParcel of priority " + priority, BAD_ARGUMENT, () -> x.addParcel(0, 1, priority));
            }
            is("parcelCount", 0, x::parcelCount);
        });
        says("Throws `IllegalStateException` if there are 12 parcels", () -> {
            ParcelRailway x = loaded(TWO + "train 4 a b;" + "parcel a b 1;".repeat(11));
            is("addParcel of a 12th", 11, () -> x.addParcel(0, 1, 1));
            fails("addParcel of a 13th", BAD_STATE, () -> x.addParcel(0, 1, 1));
            x.pass(60);
            fails("addParcel of a 13th when all are delivered", BAD_STATE, () -> x.addParcel(0, 1, 1));
            is("parcelCount", 12, x::parcelCount);
        });
    }

    private static void opening() {
        under("Promise 55");
        says("A train that travels on it is not affected.", () -> {
            ParcelRailway x = loaded("stop a;stop b;track a b 3;train 1 a b;train 1 b a;parcel a b 1;run 1;");
            x.setTrackOpen(0, 1, false);
            is("minutesToNext(0)", 3, () -> x.minutesToNext(0));
            x.pass(3);
            is("trainStation(0)", 1, () -> x.trainStation(0));
            is("trainStation(1)", 0, () -> x.trainStation(1));
            is("deliveryClock(0)", 4, () -> x.deliveryClock(0));
            is("delay(0)", 0, () -> x.delay(0));
        });
        says("another station", () -> {
            ParcelRailway x = loaded(TWO);
            fails("setTrackOpen(0, 0, true)", BAD_ARGUMENT, () -> x.setTrackOpen(0, 0, true) ? 1 : 0);
            fails("setTrackOpen(1, 1, false)", BAD_ARGUMENT, () -> x.setTrackOpen(1, 1, false) ? 1 : 0);
        });
        says("Returns whether the track was open before.", () -> {
            ParcelRailway x = loaded(TWO);
            holds("setTrackOpen(0, 1, true) of an open one", true, () -> x.setTrackOpen(0, 1, true));
            holds("setTrackOpen(0, 1, false) of an open one", true, () -> x.setTrackOpen(0, 1, false));
            holds("setTrackOpen(1, 0, false) of a closed one", false, () -> x.setTrackOpen(1, 0, false));
            holds("setTrackOpen(1, 0, true) of a closed one", false, () -> x.setTrackOpen(1, 0, true));
            holds("isTrackOpen(0, 1)", true, () -> x.isTrackOpen(0, 1));
        });
        says(NO_STATIONS, () -> {
            Numbers.check(55, Numbers.Kind.STATION, "setTrackOpen from", (x, n) -> x.setTrackOpen(n, 0, false) ? 1 : 0);
            Numbers.check(55, Numbers.Kind.STATION, "setTrackOpen to", (x, n) -> x.setTrackOpen(0, n, true) ? 1 : 0);
        });
        says("Throws `IllegalArgumentException` if there is no track between the stations", () -> {
            ParcelRailway x = loaded(LINE);
            fails("setTrackOpen(0, 2, true)", BAD_ARGUMENT, () -> x.setTrackOpen(0, 2, true) ? 1 : 0);
            fails("setTrackOpen(2, 0, false)", BAD_ARGUMENT, () -> x.setTrackOpen(2, 0, false) ? 1 : 0);
            is("trackCount", 2, x::trackCount);
            is("undoDepth", 1, x::undoDepth);
        });
    }

    private static void priorities() {
        under("Promise 56");
        says("a priority, 1 to 9", () -> {
            ParcelRailway x = loaded(TWO + "parcel a b 5;");
            for (int priority = 1; priority <= 9; priority++) {
                int due = priority;
                x.setPriority(0, due);
                is("priority(0)", due, () -> x.priority(0));
            }
        });
        says("Returns the previous priority.", () -> {
            ParcelRailway x = loaded(TWO + "parcel a b 5;parcel a b 2;");
            is("setPriority(0, 9)", 5, () -> x.setPriority(0, 9));
            is("setPriority(0, 9) again", 9, () -> x.setPriority(0, 9));
            is("setPriority(0, 1)", 9, () -> x.setPriority(0, 1));
            is("priority(1)", 2, () -> x.priority(1));
        });
        says(NO_PARCEL, () -> Numbers.check(56, Numbers.Kind.PARCEL, "setPriority", (x, n) -> x.setPriority(n, 1)));
        says("Throws `IllegalArgumentException` if the priority is out of range", () -> {
            ParcelRailway x = loaded(TWO + "parcel a b 5;");
            for (int priority : WRONG_PRIORITIES) {
                fails("setPriority(0, " + priority + ")", BAD_ARGUMENT, () -> x.setPriority(0, priority));
            }
            is("priority(0)", 5, () -> x.priority(0));
        });
    }

    private static void inspections() {
        under("Promise 57");
        says("Parcels that wait already are not affected.", () -> {
            for (int minutes : new int[] {0, 1, 9}) {
                ParcelRailway x = loaded(HELD);
                x.setInspection(1, minutes);
                x.pass(4);
                holds("isHeld(0) one minute before its time", true, () -> x.isHeld(0));
                x.pass(1);
                holds("isHeld(0) at its time", false, () -> x.isHeld(0));
            }
            ParcelRailway free = loaded(TWO + "parcel a b 1;");
            free.setInspection(0, 9);
            holds("isHeld(0) of one that was not held", false, () -> free.isHeld(0));
            ParcelRailway later = loaded(LINE + "train 1 a b;parcel a c 1;run 1;");
            later.setInspection(1, 9);
            later.pass(1);
            holds("isHeld(0) of one that comes afterwards", true, () -> later.isHeld(0));
        });
        says("an inspection time, 0 to 9", () -> {
            ParcelRailway x = loaded(TWO);
            for (int minutes = 9; minutes >= 0; minutes--) {
                int due = minutes;
                x.setInspection(1, due);
                is("inspectionTime(1)", due, () -> x.inspectionTime(1));
            }
        });
        says("Returns the previous inspection time.", () -> {
            ParcelRailway x = loaded(TWO + "inspect b 4;");
            is("setInspection(1, 9)", 4, () -> x.setInspection(1, 9));
            is("setInspection(1, 0)", 9, () -> x.setInspection(1, 0));
            is("setInspection(1, 0) again", 0, () -> x.setInspection(1, 0));
            is("setInspection(0, 3)", 0, () -> x.setInspection(0, 3));
        });
        says("Throws `IndexOutOfBoundsException` if the station does not exist",
                () -> Numbers.check(57, Numbers.Kind.STATION, "setInspection", (x, n) -> x.setInspection(n, 1)));
        says("Throws `IllegalArgumentException` if the number of minutes is out of range", () -> {
            ParcelRailway x = loaded(TWO + "inspect a 5;");
            for (int minutes : WRONG_INSPECTIONS) {
                fails("setInspection(0, " + minutes + ")", BAD_ARGUMENT, () -> x.setInspection(0, minutes));
            }
            is("inspectionTime(0)", 5, () -> x.inspectionTime(0));
        });
    }

    private static void withdrawing() {
        under("Promise 58");
        says("its destination becomes its origin, its origin becomes the station at which it waits, and it is no longer held.",
                () -> {
            ParcelRailway x = loaded(HELD);
            holds("isHeld(0)", true, () -> x.isHeld(0));
            x.withdraw(0);
            is("destination(0)", 0, () -> x.destination(0));
            is("origin(0)", 1, () -> x.origin(0));
            is("parcelStation(0)", 1, () -> x.parcelStation(0));
            holds("isHeld(0)", false, () -> x.isHeld(0));
            is("transfers(0)", 1, () -> x.transfers(0));
            x.pass(1);
            is("parcelTrain(0) in the next minute", 0, () -> x.parcelTrain(0));
            x.pass(1);
            is("deliveryClock(0) at its sender", 4, () -> x.deliveryClock(0));
        });
        says("Returns the new destination of the parcel;", () -> {
            is("withdraw(0) to a", 0, () -> loaded(HELD).withdraw(0));
            is("withdraw(0) to c", 2, () -> loaded(LINE + "train 1 c b;parcel c a 1;run 2;").withdraw(0));
        });
        says("Throws `IllegalStateException` if the parcel does not wait", () -> {
            ParcelRailway x = loaded(TWO + "train 1 a b;parcel a b 1;run 1;");
            fails("withdraw(0) of one on a train", BAD_STATE, () -> x.withdraw(0));
            x.pass(1);
            fails("withdraw(0) of a delivered one", BAD_STATE, () -> x.withdraw(0));
            ParcelRailway y = loaded(TWO + "parcel a b 1;");
            y.withdraw(0);
            fails("withdraw(0) of a withdrawn one", BAD_STATE, () -> y.withdraw(0));
            is("deliveredCount", 1, y::deliveredCount);
        });
        says(NO_PARCEL, () -> Numbers.check(58, Numbers.Kind.PARCEL, "withdraw", (x, n) -> x.withdraw(n)));
    }

    private static void withdrawnAtOrigin() {
        says("If it waits at its origin, it is delivered at the current clock instead, and its stations do not change.", () -> {
            ParcelRailway x = loaded(TWO + "run 7;parcel b a 1;");
            x.withdraw(0);
            is("deliveryClock(0)", 7, () -> x.deliveryClock(0));
            is("parcelStation(0)", -1, () -> x.parcelStation(0));
            is("origin(0)", 1, () -> x.origin(0));
            is("destination(0)", 0, () -> x.destination(0));
            is("transfers(0)", 0, () -> x.transfers(0));
            is("deliveredCount", 1, x::deliveredCount);
            ParcelRailway twice = loaded(HELD);
            twice.withdraw(0);
            twice.withdraw(0);
            is("deliveryClock(0) of one that was withdrawn away from its origin first", 2, () -> twice.deliveryClock(0));
            is("origin(0)", 1, () -> twice.origin(0));
            is("destination(0)", 0, () -> twice.destination(0));
            // The parcel goes from a by b to d; the train brings it back to a as the tracks change.
            ParcelRailway back = loaded("stop a;stop b;stop d;track a b 1;track b d 1;track a d 1;close a d;inspect a 9;"
                    + "train 1 a b;parcel a d 1;run 2;");
            back.setTrackOpen(1, 2, false);
            back.setTrackOpen(0, 2, true);
            back.pass(2);
            is("transfers(0) of one that is back at its origin", 2, () -> back.transfers(0));
            holds("isHeld(0)", true, () -> back.isHeld(0));
            is("withdraw(0)", -1, () -> back.withdraw(0));
            is("deliveryClock(0)", 4, () -> back.deliveryClock(0));
            is("origin(0)", 0, () -> back.origin(0));
            is("destination(0)", 2, () -> back.destination(0));
        });
        says("NONE if it is delivered by this call.", () -> {
            is("withdraw(0) at its origin", -1, () -> loaded(TWO + "parcel a b 1;").withdraw(0));
            ParcelRailway twice = loaded(HELD);
            twice.withdraw(0);
            is("withdraw(0) a second time", -1, () -> twice.withdraw(0));
        });
    }

    private static void writingTrains() {
        under("Promise 59");
        says("Writes the trains into the output, by ascending number and separated by spaces.", () -> {
            same("four trains", "b:0 a:0 b:0 a:0",
                    Check.trains(loaded(TWO + "train 1 b a;train 1 a b;train 1 b a;train 1 a b;")));
            same("one train", "b:0", Check.trains(loaded(TWO + "train 1 b a;")));
            same("no train", "", Check.trains(loaded(TWO)));
        });
        says("A train that stands is written as the name of its station.", () -> {
            ParcelRailway x = loaded("stop abcd;stop z;track abcd z 1;train 1 abcd z;");
            same("the train", "abcd:0", Check.trains(x));
            x.pass(2);
            same("the train at the other end", "z:0", Check.trains(x));
        });
        says("A train that travels is written as the name of the station that it left, the byte >, and the name of the next"
                + " station.", () -> {
            ParcelRailway x = loaded("stop abcd;stop z;track abcd z 2;train 1 abcd z;run 1;");
            same("the train", "abcd>z:0", Check.trains(x));
            x.pass(1);
            same("the train in its last minute", "abcd>z:0", Check.trains(x));
            x.pass(2);
            same("the train on its way back", "z>abcd:0", Check.trains(x));
        });
        says("and the number of parcels on the train follow.", () -> {
            ParcelRailway x = loaded(TWO + "train 4 a b;train 1 a b;train 4 a b;" + "parcel a b 1;".repeat(7) + "run 1;");
            same("the trains", "a>b:4 a>b:1 a>b:2", Check.trains(x));
        });
        says("The previous output is discarded.", () -> {
            ParcelRailway x = loaded(TWO + "train 1 a b;parcel a b 1;parcel a b 1;");
            is("writeParcels", 5, x::writeParcels);
            is("writeTrains", 3, x::writeTrains);
            same("the output", "a:0", Check.output(x, 3));
            fails("outputByte(3)", NO_ELEMENT, () -> x.outputByte(3));
            is("writeTrains again", 3, x::writeTrains);
            Check.load(x, TWO);
            is("writeTrains without trains", 0, x::writeTrains);
            fails("outputByte(0)", NO_ELEMENT, () -> x.outputByte(0));
        });
        says("Returns the length of the output.", () -> {
            is("writeTrains of one", 3, () -> loaded(TWO + "train 1 a b;").writeTrains());
            is("writeTrains of none", 0, () -> loaded(TWO).writeTrains());
            is("writeTrains of the longest output", 47, () -> loaded("stop abcd;stop dcba;track abcd dcba 9;"
                    + "train 1 abcd dcba;".repeat(4) + "run 1;").writeTrains());
        });
    }

    private static void writingParcels() {
        under("Promise 60");
        says("Writes the parcels into the output, by ascending number and separated by spaces.", () -> {
            same("parcels", "@b @a @a", Check.parcels(loaded(TWO + "parcel b a 1;parcel a b 9;parcel a b 1;")));
            same("one parcel", "@b", Check.parcels(loaded(TWO + "parcel b a 1;")));
            same("no parcel", "", Check.parcels(loaded(TWO)));
        });
        says("A waiting parcel is written as the byte @ and the name of its station", () -> {
            same("parcels", "@a @bb @ccc @dddd", Check.parcels(loaded("stop a;stop bb;stop ccc;stop dddd;parcel a bb 1;"
                    + "parcel bb a 1;parcel ccc a 1;parcel dddd a 1;")));
            same("a held parcel", "@b", Check.parcels(loaded(HELD)));
        });
        says("a parcel on a train as the byte # and the number of the train", () -> {
            ParcelRailway x = loaded(TWO + "train 1 a b;".repeat(4) + "parcel a b 1;".repeat(5) + "run 1;");
            same("parcels", "#0 #1 #2 #3 @a", Check.parcels(x));
        });
        says("a delivered parcel as the byte =.", () -> {
            ParcelRailway x = loaded(TWO + "train 1 a b;parcel a b 1;parcel a b 1;run 2;");
            same("parcels", "= @a", Check.parcels(x));
            x.withdraw(1);
            same("a withdrawn parcel", "= =", Check.parcels(x));
        });
        says("The previous output is discarded.", () -> {
            ParcelRailway x = loaded(TWO + "train 1 a b;train 1 a b;parcel a b 1;");
            is("writeTrains", 7, x::writeTrains);
            is("writeParcels", 2, x::writeParcels);
            same("the output", "@a", Check.output(x, 2));
            fails("outputByte(2)", NO_ELEMENT, () -> x.outputByte(2));
            Check.load(x, TWO);
            is("writeParcels without parcels", 0, x::writeParcels);
            fails("outputByte(0)", NO_ELEMENT, () -> x.outputByte(0));
        });
        says("Returns the length of the output.", () -> {
            is("writeParcels of one", 2, () -> loaded(TWO + "parcel a b 1;").writeParcels());
            is("writeParcels of none", 0, () -> loaded(TWO).writeParcels());
            is("writeParcels of the longest output", 71, () -> loaded("stop abcd;stop dcba;"
                    + "parcel abcd dcba 1;".repeat(12)).writeParcels());
        });
    }

    private static void output() {
        under("Promise 61");
        says("a position in the output, from 0", () -> {
            ParcelRailway x = new ParcelRailway();
            x.writeTrains();
            String due = "b>c:2 d:0";
            for (int position = 0; position < due.length(); position++) {
                int p = position;
                is("outputByte(" + p + ")", due.charAt(p), () -> x.outputByte(p));
            }
            ParcelRailway twelve = loaded("stop abcd;stop dcba;" + "parcel abcd dcba 1;".repeat(12));
            twelve.writeParcels();
            is("outputByte(70): the last one", 'd', () -> twelve.outputByte(70));
        });
        says("Throws `NoSuchElementException` if the output has no such position", () -> {
            ParcelRailway x = new ParcelRailway();
            for (int position : new int[] {0, -1, Integer.MIN_VALUE, Integer.MAX_VALUE}) {
                fails("outputByte(" + position + ") of an empty output", NO_ELEMENT, () -> x.outputByte(position));
            }
            x.writeTrains();
            for (int position : new int[] {-1, 9, 10, 71, 1000, Integer.MIN_VALUE, Integer.MAX_VALUE}) {
                fails("outputByte(" + position + ") of 9", NO_ELEMENT, () -> x.outputByte(position));
            }
            ParcelRailway twelve = loaded("stop abcd;stop dcba;" + "parcel abcd dcba 1;".repeat(12));
            twelve.writeParcels();
            fails("outputByte(71) of 71", NO_ELEMENT, () -> twelve.outputByte(71));
        });
    }

    private static void saving() {
        under("Promise 62");
        says("Stores a copy of the state in a slot.", () -> {
            ParcelRailway x = new ParcelRailway();
            String saved = Snapshot.state(x);
            x.save(0);
            x.pass(3);
            x.setTrackOpen(0, 1, false);
            x.setInspection(1, 8);
            x.setPriority(0, 1);
            x.restore(0);
            same("the copy does not follow the state", saved, Snapshot.state(x));
        });
        says("The previous content of the slot is discarded.", () -> {
            ParcelRailway x = new ParcelRailway();
            x.save(0);
            x.pass(1);
            is("save(0)", 5, () -> x.save(0));
            x.pass(1);
            is("restore(0)", 5, () -> x.restore(0));
        });
        says("0 or 1", () -> {
            ParcelRailway x = new ParcelRailway();
            is("save(0)", 4, () -> x.save(0));
            x.pass(1);
            is("save(1)", 5, () -> x.save(1));
            is("restore(0) has what was saved there", 4, () -> x.restore(0));
            is("restore(1) has what was saved there", 5, () -> x.restore(1));
        });
        says(NO_SLOT, () -> {
            ParcelRailway x = new ParcelRailway();
            for (int slot : WRONG_SLOTS) {
                fails("save(" + slot + ")", NO_INDEX, () -> x.save(slot));
            }
            fails("restore(0): nothing was saved", BAD_STATE, () -> x.restore(0));
            fails("restore(1): nothing was saved", BAD_STATE, () -> x.restore(1));
        });
    }

    private static void restoring() {
        under("Promise 63");
        says("The slot keeps its content.", () -> {
            ParcelRailway x = new ParcelRailway();
            String saved = Snapshot.state(x);
            x.save(1);
            x.pass(3);
            x.restore(1);
            x.pass(2);
            x.withdraw(2);
            x.setTrackOpen(2, 3, false);
            is("restore(1) a second time", 4, () -> x.restore(1));
            same("the state", saved, Snapshot.state(x));
            x.undo();
            is("restore(1) a third time, after undo", 4, () -> x.restore(1));
        });
        says("0 or 1", () -> {
            ParcelRailway x = new ParcelRailway();
            x.save(1);
            x.pass(1);
            x.save(0);
            x.pass(1);
            is("restore(1)", 4, () -> x.restore(1));
            is("restore(0)", 5, () -> x.restore(0));
        });
        says(NO_SLOT, () -> {
            ParcelRailway x = new ParcelRailway();
            x.save(0);
            x.save(1);
            for (int slot : WRONG_SLOTS) {
                fails("restore(" + slot + ")", NO_INDEX, () -> x.restore(slot));
            }
        });
        says("Throws `IllegalStateException` if the slot is empty", () -> {
            ParcelRailway x = new ParcelRailway();
            fails("restore(0)", BAD_STATE, () -> x.restore(0));
            fails("restore(1)", BAD_STATE, () -> x.restore(1));
            x.save(0);
            fails("restore(1) beside a filled slot", BAD_STATE, () -> x.restore(1));
            is("restore(0)", 4, () -> x.restore(0));
            Check.load(x, "stop a;");
            is("restore(0) after load", 4, () -> x.restore(0));
        });
    }

    private static void undoing() {
        under("Promise 64");
        says("Undoes the latest remembered undoable call and removes it from the remembered calls.", () -> {
            ParcelRailway x = new ParcelRailway();
            x.pass(1);
            x.pass(2);
            is("undo", 1, x::undo);
            is("clock", 5, x::clock);
            is("undo", 0, x::undo);
            is("clock", 4, x::clock);
            fails("undo of nothing", BAD_STATE, x::undo);
            is("undoDepth", 0, x::undoDepth);
        });
        says("Returns the number of remembered calls that are left.", () -> {
            ParcelRailway x = new ParcelRailway();
            for (int i = 0; i < 10; i++) {
                x.pass(1);
            }
            for (int left = 7; left >= 0; left--) {
                int due = left;
                is("undo", due, x::undo);
                is("undoDepth", due, x::undoDepth);
            }
        });
        says("Throws `IllegalStateException` if no call is remembered", () -> {
            ParcelRailway x = new ParcelRailway();
            fails("undo of a new object", BAD_STATE, x::undo);
            x.save(0);
            x.writeTrains();
            fails("undo after calls that are not undoable", BAD_STATE, x::undo);
            x.pass(1);
            is("undo", 0, x::undo);
            fails("undo of an undone call", BAD_STATE, x::undo);
        });
        under("Promise 65");
        says("Returns the number of remembered undoable calls, at most 8.", () -> {
            ParcelRailway x = new ParcelRailway();
            is("undoDepth of a new object", 0, x::undoDepth);
            for (int i = 1; i <= 12; i++) {
                int due = Math.min(i, 8);
                x.setPriority(0, 1);
                is("undoDepth", due, x::undoDepth);
            }
            x.undo();
            is("undoDepth after undo", 7, x::undoDepth);
            is("undoDepth after save", 7, () -> {
                x.save(0);
                return x.undoDepth();
            });
        });
    }
}

/** Promises 1 to 6: a new object, the input buffer and load. */
final class InputSentences extends Sentences {
    private static final int BLANKS = 0x20202020;
    private static final String TEXT = "stop ab;request c;";

    static void tell() {
        newObject();
        appending();
        truncating();
        loading();
        errors();
    }

    private static void newObject() {
        under("Promise 1");
        says("Creates the railway with the state that section 6 describes, an empty input buffer, no error, an empty output and"
                + " empty slots.", () -> {
            ParcelRailway x = new ParcelRailway();
            same("the trains", "b>c:2 d:0", Check.trains(new ParcelRailway()));
            is("clock", 4, x::clock);
            fails("truncateInput(1)", BAD_ARGUMENT, () -> x.truncateInput(1));
            is("truncateInput(0)", 0, () -> x.truncateInput(0));
            is("errorCode", 0, x::errorCode);
            is("errorPosition", -1, x::errorPosition);
            fails("outputByte(0)", NO_ELEMENT, () -> x.outputByte(0));
            fails("restore(0)", BAD_STATE, () -> x.restore(0));
            fails("restore(1)", BAD_STATE, () -> x.restore(1));
            is("undoDepth", 0, x::undoDepth);
            is("load of the empty buffer", 0, x::load);
        });
    }

    /** The text at this place of the buffer comes from one argument alone; all other bytes are blanks. */
    private static void fourBytes(int argument) {
        int[] words = {BLANKS, BLANKS, BLANKS, BLANKS, BLANKS};
        words[argument] = 0x203F2A20;
        ParcelRailway x = new ParcelRailway();
        is("appendInput", 20, () -> x.appendInput(words[0], words[1], words[2], words[3], words[4]));
        fails("load of one ?", BAD_ARGUMENT, x::load);
        is("its position: the second byte of the argument", 4 * argument + 1, x::errorPosition);
        words[argument] = 0x2020203F;
        x.appendInput(words[0], words[1], words[2], words[3], words[4]);
        fails("load of one ?", BAD_ARGUMENT, x::load);
        is("its position: the last byte of the argument", 4 * argument + 3, x::errorPosition);
        words[argument] = 0x3F202020;
        x.appendInput(words[0], words[1], words[2], words[3], words[4]);
        fails("load of one ?", BAD_ARGUMENT, x::load);
        is("its position: the first byte of the argument", 4 * argument, x::errorPosition);
    }

    private static void appending() {
        under("Promise 2");
        says("Appends 20 bytes to the input buffer:", () -> {
            ParcelRailway x = new ParcelRailway();
            is("appendInput", 20, () -> x.appendInput(0, 0, 0, 0, 0));
            is("appendInput", 40, () -> x.appendInput(-1, -1, -1, -1, -1));
            is("truncateInput(40)", 40, () -> x.truncateInput(40));
            is("truncateInput(39)", 39, () -> x.truncateInput(39));
            is("appendInput to an odd length", 59, () -> x.appendInput(0, 0, 0, 0, 0));
        });
        says("the four bytes of each argument, the most significant byte first.", () -> {
            ParcelRailway x = new ParcelRailway();
            // "stop", " ab;", "requ", "est ", "c;  "
            is("appendInput", 20, () -> x.appendInput(0x73746F70, 0x2061623B, 0x72657175, 0x65737420, 0x633B2020));
            is("load", 2, x::load);
            holds("isRequestStop(0)", false, () -> x.isRequestStop(0));
            holds("isRequestStop(1)", true, () -> x.isRequestStop(1));
            ParcelRailway negative = new ParcelRailway();
            // A byte above 127 is read as it is and neither changes the ones before it nor is lost.
            negative.appendInput(0x72756E20, 0x3520203B, 0xA020FFE1, Integer.MIN_VALUE, -1);
            fails("load", BAD_ARGUMENT, negative::load);
            is("errorPosition", 8, negative::errorPosition);
        });
        String[] bytes = {"bytes 1 to 4", "bytes 5 to 8", "bytes 9 to 12", "bytes 13 to 16", "bytes 17 to 20"};
        for (int i = 0; i < bytes.length; i++) {
            int argument = i;
            says(bytes[i], () -> fourBytes(argument));
        }
        says("Returns the new length of the buffer.", () -> {
            ParcelRailway x = new ParcelRailway();
            for (int length = 20; length <= 600; length += 20) {
                int due = length;
                is("appendInput", due, () -> x.appendInput(BLANKS, BLANKS, BLANKS, BLANKS, BLANKS));
            }
        });
        says("Throws `IllegalStateException` if the new length would be greater than 600", () -> {
            ParcelRailway x = new ParcelRailway();
            Check.append(x, " ".repeat(580));
            is("appendInput to 600", 600, () -> x.appendInput(BLANKS, BLANKS, BLANKS, BLANKS, BLANKS));
            fails("appendInput to 620", BAD_STATE, () -> x.appendInput(BLANKS, BLANKS, BLANKS, BLANKS, BLANKS));
            is("truncateInput(581)", 581, () -> x.truncateInput(581));
            fails("appendInput to 601", BAD_STATE, () -> x.appendInput(BLANKS, BLANKS, BLANKS, BLANKS, BLANKS));
            is("truncateInput(581) of what is still there", 581, () -> x.truncateInput(581));
            is("load", 0, x::load);
            is("appendInput after load", 20, () -> x.appendInput(BLANKS, BLANKS, BLANKS, BLANKS, BLANKS));
        });
    }

    private static void truncating() {
        under("Promise 3");
        says("the new length, 0 to the current length", () -> {
            ParcelRailway x = new ParcelRailway();
            is("truncateInput(0) of an empty buffer", 0, () -> x.truncateInput(0));
            Check.append(x, TEXT + "?");
            is("truncateInput(19): the current length", 19, () -> x.truncateInput(19));
            is("truncateInput(18)", 18, () -> x.truncateInput(18));
            is("load without the last byte", 2, x::load);
            Check.append(x, "?");
            is("truncateInput(0)", 0, () -> x.truncateInput(0));
            is("load of nothing", 0, x::load);
        });
        says("Returns the new length.", () -> {
            ParcelRailway x = new ParcelRailway();
            Check.append(x, " ".repeat(600));
            for (int length = 600; length >= 0; length -= 50) {
                int due = length;
                is("truncateInput", due, () -> x.truncateInput(due));
            }
        });
        says("Throws `IllegalArgumentException` if the length is out of range", () -> {
            ParcelRailway x = new ParcelRailway();
            for (int length : new int[] {-1, 1, 20, 600, 601, Integer.MIN_VALUE, Integer.MAX_VALUE}) {
                fails("truncateInput(" + length + ") of an empty buffer", BAD_ARGUMENT, () -> x.truncateInput(length));
            }
            Check.append(x, TEXT);
            for (int length : new int[] {-1, 19, 20, 600, 601, Integer.MIN_VALUE, Integer.MAX_VALUE}) {
                fails("truncateInput(" + length + ") of 18", BAD_ARGUMENT, () -> x.truncateInput(length));
            }
            x.truncateInput(8);
            fails("truncateInput(9) back", BAD_ARGUMENT, () -> x.truncateInput(9));
            is("load", 1, x::load);
        });
    }

    /** No number of an earlier text may be left in the stations, trains and parcels of the next one. */
    private static void nothingIsLeft() {
        ParcelRailway x = loaded(StateSentences.BUSY);
        Check.load(x, "stop a;stop b;stop c;track a b 9;train 3 b a;train 3 a b;train 3 b a b;parcel a b 1;parcel b a 1;"
                + "parcel a b 1;parcel b a 1;");
        for (int number = 0; number < 3; number++) {
            int n = number;
            is("inspectionTime(" + n + ")", 0, () -> x.inspectionTime(n));
            holds("isRequestStop(" + n + ")", false, () -> x.isRequestStop(n));
            is("delay(" + n + ")", 0, () -> x.delay(n));
            is("stopsMade(" + n + ")", 0, () -> x.stopsMade(n));
            is("stopsPassed(" + n + ")", 0, () -> x.stopsPassed(n));
            is("minutesToNext(" + n + ")", -1, () -> x.minutesToNext(n));
            is("trainStation(" + n + ")", (n + 1) % 2, () -> x.trainStation(n));
            holds("isForward(" + n + ")", true, () -> x.isForward(n));
            is("transfers(" + n + ")", 0, () -> x.transfers(n));
            holds("isHeld(" + n + ")", false, () -> x.isHeld(n));
            is("parcelTrain(" + n + ")", -1, () -> x.parcelTrain(n));
            is("dropStation(" + n + ")", -1, () -> x.dropStation(n));
            is("deliveryClock(" + n + ")", -1, () -> x.deliveryClock(n));
            is("minutesToStop(" + n + ")", n == 2 ? -1 : 10, () -> x.minutesToStop(n));
        }
        is("distance(0, 2) in the next text", -1, () -> x.distance(0, 2));
        is("loadingBalance", 0, x::loadingBalance);
        Check.load(x, "stop a;stop b;");
        is("distance(0, 1) without tracks", -1, () -> x.distance(0, 1));
        // Parcel 0 is on the train to b and parcel 1 waits at b when the next text comes.
        String line = "stop a;request b;stop c;track a b 1;track b c 1;train 2 a b c;";
        Check.load(x, line + "parcel a b 1;parcel b a 1;run 1;");
        same("the parcels", "#0 @b", Check.parcels(x));
        Check.load(x, line + "run 2;");
        is("stopsPassed(0) where an earlier text had parcels for b", 1, () -> x.stopsPassed(0));
        is("waitingCount(0)", 0, () -> x.waitingCount(0));
        is("waitingCount(1)", 0, () -> x.waitingCount(1));
        is("carriedCount(0)", 0, () -> x.carriedCount(0));
        is("deliveredCount", 0, x::deliveredCount);
        is("parcelBalance", 0, x::parcelBalance);
        Check.load(x, line + "parcel a b 1;parcel a b 1;run 2;");
        is("meanDeliveryClock of two", 2.0, x::meanDeliveryClock);
        Check.load(x, line + "run 6;parcel a b 1;run 2;");
        is("meanDeliveryClock of the one in the next text", 8.0, x::meanDeliveryClock);
    }

    private static void loading() {
        under("Promise 4");
        says("Parses the input buffer and replaces the state by the result.", () -> {
            ParcelRailway x = loaded("stop a;stop b;track a b 1;train 1 a b;parcel a b 1;run 9;");
            Check.load(x, TEXT);
            is("stationCount", 2, x::stationCount);
            is("trackCount", 0, x::trackCount);
            is("trainCount", 0, x::trainCount);
            is("parcelCount", 0, x::parcelCount);
            is("clock", 0, x::clock);
            nothingIsLeft();
        });
        says("The input buffer is empty afterwards, also if the text has an error.", () -> {
            ParcelRailway x = new ParcelRailway();
            Check.load(x, TEXT);
            fails("truncateInput(1) after load", BAD_ARGUMENT, () -> x.truncateInput(1));
            Check.append(x, "stop ab;?");
            fails("load", BAD_ARGUMENT, x::load);
            fails("truncateInput(1) after a load with an error", BAD_ARGUMENT, () -> x.truncateInput(1));
            is("appendInput", 20, () -> x.appendInput(BLANKS, BLANKS, BLANKS, BLANKS, BLANKS));
        });
        says("If the text has an error, the state does not change, and the error code and the error position are stored.", () -> {
            ParcelRailway x = new ParcelRailway();
            x.pass(1);
            String before = Snapshot.state(x);
            Check.append(x, "stop a;stop b;track a b 1;train 1 a b;parcel a b 1;run 9;stop b;");
            fails("load", BAD_ARGUMENT, x::load);
            same("the state", before, Snapshot.state(x));
            is("errorCode", 3, x::errorCode);
            is("errorPosition", 62, x::errorPosition);
            is("undoDepth", 1, x::undoDepth);
        });
        says("Returns the number of stations.", () -> {
            String[] texts = {"", "stop a;", "stop a;stop b;", "stop a;stop b;stop c;stop d;stop e;stop f;stop g;stop h;"};
            int[] due = {0, 1, 2, 8};
            for (int i = 0; i < texts.length; i++) {
                String text = texts[i];
                is("load", due[i], () -> Check.load(new ParcelRailway(), text));
            }
        });
        says("Throws `IllegalArgumentException` if the text has an error", () -> {
            String[] texts = {"?", "run 61;", "stop a;stop a;", "inspect a 1;", "stop a;track a a 1;",
                "stop a;stop b;stop c;stop d;stop e;stop f;stop g;stop h;stop i;"};
            for (int i = 0; i < texts.length; i++) {
                ParcelRailway x = new ParcelRailway();
                Check.append(x, texts[i]);
                fails("load of " + texts[i], BAD_ARGUMENT, x::load);
                is("errorCode", i + 1, x::errorCode);
            }
        });
    }

    private static void errors() {
        under("Promise 5");
        says("Returns the error code of the latest call of load;", () -> {
            ParcelRailway x = new ParcelRailway();
            Check.append(x, "run 61;");
            fails("load", BAD_ARGUMENT, x::load);
            is("errorCode", 2, x::errorCode);
            Check.append(x, "stop a;stop a;");
            is("errorCode before the next load", 2, x::errorCode);
            fails("load", BAD_ARGUMENT, x::load);
            is("errorCode of the next load", 3, x::errorCode);
        });
        says("0 if it had no error or if load was not called.", () -> {
            ParcelRailway x = new ParcelRailway();
            x.pass(1);
            is("errorCode without a load", 0, x::errorCode);
            Check.append(x, "?");
            fails("load", BAD_ARGUMENT, x::load);
            Check.load(x, "stop a;");
            is("errorCode after a load without an error", 0, x::errorCode);
        });
        under("Promise 6");
        says("Returns the error position of the latest call of load;", () -> {
            ParcelRailway x = new ParcelRailway();
            Check.append(x, "?");
            fails("load", BAD_ARGUMENT, x::load);
            is("errorPosition at the first byte", 0, x::errorPosition);
            Check.append(x, "stop a;stop a;");
            is("errorPosition before the next load", 0, x::errorPosition);
            fails("load", BAD_ARGUMENT, x::load);
            is("errorPosition of the next load", 12, x::errorPosition);
        });
        says("NONE if it had no error or if load was not called.", () -> {
            ParcelRailway x = new ParcelRailway();
            x.pass(1);
            is("errorPosition without a load", -1, x::errorPosition);
            Check.append(x, "?");
            fails("load", BAD_ARGUMENT, x::load);
            Check.load(x, "stop a;");
            is("errorPosition after a load without an error", -1, x::errorPosition);
        });
    }
}

/** Promises 2 to 6: the input buffer, the text and its errors. */
public final class InputTest {
    private static final String TWO = "stop a;stop b;track a b 1;";

    private static void buffer() {
        ParcelRailway x = new ParcelRailway();
        Check.fails(3, "truncateInput(1) of an empty buffer", IllegalArgumentException.class, () -> x.truncateInput(1));
        Check.fails(3, "truncateInput(-1)", IllegalArgumentException.class, () -> x.truncateInput(-1));
        Check.is(3, "truncateInput(0)", 0, () -> x.truncateInput(0));
        for (int i = 1; i <= 30; i++) {
            int length = 20 * i;
            Check.is(2, "appendInput", length, () -> x.appendInput(0x20202020, 0x20202020, 0x0A0A0A0A, 0x20202020, 0x20202020));
        }
        Check.fails(2, "appendInput to 620", IllegalStateException.class, () -> x.appendInput(0, 0, 0, 0, 0));
        Check.fails(3, "truncateInput(601)", IllegalArgumentException.class, () -> x.truncateInput(601));
        Check.is(3, "truncateInput(600)", 600, () -> x.truncateInput(600));
        Check.is(3, "truncateInput(581)", 581, () -> x.truncateInput(581));
        Check.fails(2, "appendInput to 601", IllegalStateException.class, () -> x.appendInput(0, 0, 0, 0, 0));
        Check.is(3, "truncateInput(580)", 580, () -> x.truncateInput(580));
        Check.is(2, "appendInput to 600", 600, () -> x.appendInput(0x20202020, 0x20202020, 0x20202020, 0x20202020, 0x2020203B));
        Check.fails(4, "load of a late semicolon", IllegalArgumentException.class, x::load);
        Check.is(6, "errorPosition at the end of a full buffer", 599, x::errorPosition);
        Check.is(2, "appendInput after an error starts anew", 20, () -> x.appendInput(0x20202020, 0x20202020, 0x20202020, 0x20202020, 0x20202020));
        Check.is(4, "load of blanks", 0, x::load);
        Check.is(2, "appendInput after load starts anew", 20, () -> x.appendInput(-1, Integer.MIN_VALUE, Integer.MAX_VALUE, 0, 1));
        Check.fails(3, "truncateInput(21)", IllegalArgumentException.class, () -> x.truncateInput(21));
    }

    private static void byteOrder() {
        ParcelRailway x = new ParcelRailway();
        // "request abcd;stop  e" and ";": every one of the four bytes of every argument matters.
        x.appendInput(0x72657175, 0x65737420, 0x61626364, 0x3B73746F, 0x70202065);
        x.appendInput(0x3B000000, 0, 0, 0, 0);
        x.truncateInput(21);
        Check.is(4, "load", 2, x::load);
        Check.holds(2, "isRequestStop(0)", true, () -> x.isRequestStop(0));
        Check.holds(2, "isRequestStop(1)", false, () -> x.isRequestStop(1));
        ParcelRailway named = Check.loaded("stop  abcd;stop  e  ;track abcd e 1;train 1 abcd e;train 1 e abcd;");
        Check.same("the names", "abcd:0 e:0", Check.trains(named));
    }

    private static void goodTexts() {
        Check.accepted("");
        Check.accepted(" \n ");
        Check.accepted("stop a;");
        Check.accepted("\n stop\na\n;\n\n");
        Check.accepted("stop stop;stop run;request a;request abcd;");
        Check.accepted(TWO + "close a b;close b a;");
        Check.accepted(TWO + "close a b;train 1 a b;");
        Check.accepted(TWO + "train 1 a b a b a b;");
        Check.accepted(TWO + "train 004 a b;parcel a b 0000000000000000000000000000009;inspect a 00;run 060;run 0;");
        Check.accepted("stop a;stop b;track a b1;train1a b;parcel a b9;inspect a9;run60;");
        Check.accepted("stop a;stop b;stop c;stop d;stop e;stop f;stop g;stop h;track a b 9;");
        ParcelRailway x = Check.loaded(TWO + "parcel a b 007;inspect b 09;run 010;");
        Check.is(4, "a priority with leading zeros", 7, () -> x.priority(0));
        Check.is(4, "an inspection time with leading zeros", 9, () -> x.inspectionTime(1));
        Check.is(4, "a run with leading zeros", 10, x::clock);
    }

    private static void notAllowed() {
        Check.refused(";", 1, 0);
        Check.refused("stop", 1, 4);
        Check.refused("stop  \n", 1, 7);
        Check.refused("stop a", 1, 6);
        Check.refused("stop a ", 1, 7);
        Check.refused("stop a b;", 1, 7);
        Check.refused("stop ;", 1, 5);
        Check.refused("stop 1;", 1, 5);
        Check.refused("stop A;", 1, 5);
        Check.refused("stop aB;", 1, 6);
        Check.refused("stop a1;", 1, 6);
        Check.refused("Stop a;", 1, 0);
        Check.refused("stops a;", 1, 0);
        Check.refused("sto a;", 1, 0);
        Check.refused("a;", 1, 0);
        for (String word : new String[] {"xtop", "xequest", "xrack", "xrain", "xarcel", "xnspect", "xlose", "xun",
            "stox", "requesx", "tracx", "traix", "parcex", "inspecx", "closx", "rux", "st", "reques", "runs", "trains"}) {
            Check.refused("stop a;" + word, 1, 7);
        }
        Check.refused("7;", 1, 0);
        Check.refused("\tstop a;", 1, 0);
        Check.refused("stop\ra;", 1, 4);
        Check.refused("stop a;\u0000", 1, 7);
        Check.refused("stop a;;", 1, 7);
        Check.refused("stop a;\u00e9", 1, 7);
        Check.refused("stop `;", 1, 5);
        Check.refused("stop {;", 1, 5);
        Check.refused("stop a:", 1, 6);
        Check.refused("stop a;inspect a /", 1, 17);
        Check.refused("stop a;inspect a :", 1, 17);
        Check.refused("run;", 1, 3);
        Check.refused("run -1;", 1, 4);
        Check.refused("run a;", 1, 4);
        Check.refused("run 1 1;", 1, 6);
        Check.refused("run 1", 1, 5);
        Check.refused(TWO + "train a b;", 1, 32);
        Check.refused(TWO + "train 1;", 1, 33);
        Check.refused(TWO + "train 1 a;", 1, 35);
        Check.refused(TWO + "train 1 a 2;", 1, 36);
        Check.refused(TWO + "train 1 a b 2;", 1, 38);
        Check.refused(TWO + "train 1 a b", 1, 37);
        Check.refused(TWO + "train 1 a b a b a b :", 1, 46);
        Check.refused(TWO + "parcel a b;", 1, 36);
        Check.refused(TWO + "parcel a 1;", 1, 35);
        Check.refused(TWO + "parcel a b c;", 1, 37);
        Check.refused(TWO + "parcel a b 1 2;", 1, 39);
        Check.refused(TWO + "close a;", 1, 33);
        Check.refused(TWO + "close a b 1;", 1, 36);
        Check.refused(TWO + "inspect a;", 1, 35);
        Check.refused(TWO + "inspect 1 a;", 1, 34);
        Check.refused("stop a;stop b;track a b;", 1, 23);
        Check.refused("stop a;stop b;track;", 1, 19);
        Check.refused("stop a;stop b;track a b 1", 1, 25);
    }

    private static void outOfRange() {
        Check.refused("stop abcde;", 2, 5);
        Check.refused("request abcdefghijklmnop", 2, 8);
        Check.refused("stop aaaa;stop aaaaa;", 2, 15);
        Check.refused("stop a;stop b;track a b 0;", 2, 24);
        Check.refused("stop a;stop b;track a b 10;", 2, 24);
        Check.refused("stop a;stop b;track a b 4294967297;", 2, 24);
        Check.refused(TWO + "train 0 a b;", 2, 32);
        Check.refused(TWO + "train 5 a b;", 2, 32);
        Check.refused(TWO + "parcel a b 0;", 2, 37);
        Check.refused(TWO + "parcel a b 10;", 2, 37);
        Check.refused(TWO + "parcel a b 18446744073709551617;", 2, 37);
        Check.refused(TWO + "inspect a 10;", 2, 36);
        Check.refused("run 61;", 2, 4);
        Check.refused("run 0000000000000000000000000000000000000000000000000000000000000061;", 2, 4);
        Check.refused("run 1000000000000000000000000000000000000000000000000000000000000000;", 2, 4);
        Check.refused("run 340282366920938463463374607431768211456;", 2, 4);
    }

    private static void names() {
        Check.refused("stop a;stop a;", 3, 12);
        Check.refused("stop a;request b;request a", 3, 25);
        Check.refused("stop aaaa;request aaaa;", 3, 18);
        Check.refused("track a b 1;", 4, 6);
        Check.refused("stop a;track a b 1;", 4, 15);
        Check.refused("stop a;track b b 1;", 4, 13);
        Check.refused("stop a;stop b;track a abcdefgh 1;", 4, 22);
        Check.refused("stop aa;inspect a 1;", 4, 16);
        Check.refused("stop a;inspect aa 1;", 4, 15);
        Check.refused("stop a;inspect ab", 4, 15);
        Check.refused(TWO + "train 1 c a;", 4, 34);
        Check.refused(TWO + "train 1 a c;", 4, 36);
        Check.refused(TWO + "parcel c a 1;", 4, 33);
        Check.refused(TWO + "parcel a c 1;", 4, 35);
        Check.refused(TWO + "close c a;", 4, 32);
        Check.refused(TWO + "close a c;", 4, 34);
        Check.refused(TWO + "train 1 a b a b a b c;", 4, 46);
    }

    private static void pairs() {
        Check.refused("stop a;track a a 1;", 5, 15);
        Check.refused(TWO + "track a b 1;", 5, 34);
        Check.refused(TWO + "track b a 1;", 5, 34);
        Check.refused(TWO + "close a b;track b a 1;", 5, 44);
        Check.refused(TWO + "parcel a a 1;", 5, 35);
        Check.refused(TWO + "close a a;", 5, 34);
        Check.refused(TWO + "stop c;close a c;", 5, 41);
        Check.refused(TWO + "stop c;close c a;", 5, 41);
        Check.refused(TWO + "train 1 a a;", 5, 36);
        Check.refused(TWO + "stop c;train 1 a c;", 5, 43);
        Check.refused(TWO + "stop c;train 1 a b c;", 5, 45);
        Check.refused(TWO + "train 1 a b a b a b b;", 5, 46);
        Check.accepted(TWO + "stop c;parcel a c 1;");
    }

    private static void limits() {
        String eight = "stop a;stop b;stop c;stop d;request e;stop f;stop g;stop h;";
        Check.accepted(eight);
        Check.refused(eight + "stop i;", 6, 59);
        Check.refused(eight + "request", 6, 59);
        Check.refused(eight + "stop a;", 6, 59);
        String twelve = eight + "track a b 1;track a c 1;track a d 1;track a e 1;track a f 1;track a g 1;"
                + "track a h 1;track b c 1;track b d 1;track b e 1;track b f 1;track b g 1;";
        Check.accepted(twelve);
        Check.refused(twelve + "track a a 0;", 6, 203);
        String four = TWO + "train 1 a b;train 1 a b;train 1 a b;train 1 b a;";
        Check.accepted(four);
        Check.refused(four + "train 9;", 6, 74);
        Check.refused(TWO + "train 1 a b a b a b a;", 6, 46);
        Check.refused(TWO + "train 1 a b a b a b a", 6, 46);
        String parcels = TWO + "parcel a b 1;".repeat(12);
        Check.accepted(parcels);
        Check.refused(parcels + "parcel", 6, 182);
    }

    private static void aWholeLoad() {
        ParcelRailway x = new ParcelRailway();
        Check.is(5, "errorCode of a new object", 0, x::errorCode);
        Check.is(6, "errorPosition of a new object", -1, x::errorPosition);
        Check.append(x, "stop q;run 9;oops");
        Check.fails(4, "load with an error", IllegalArgumentException.class, x::load);
        Check.is(5, "errorCode", 1, x::errorCode);
        Check.is(6, "errorPosition", 13, x::errorPosition);
        Check.is(4, "stationCount after an error", 4, x::stationCount);
        Check.is(4, "clock after an error", 4, x::clock);
        Check.is(65, "undoDepth after an error", 0, x::undoDepth);
        Check.is(4, "load of the empty buffer that an error leaves", 0, x::load);
        Check.is(5, "errorCode after a load without an error", 0, x::errorCode);
        Check.is(6, "errorPosition after a load without an error", -1, x::errorPosition);
        Check.is(4, "clock after the empty text", 0, x::clock);
        Check.is(65, "undoDepth after a load", 1, x::undoDepth);
        Check.is(4, "load", 3, () -> Check.load(x, "stop a;stop b;stop c;track a b 1;run 3;parcel a c 2;"));
        Check.is(4, "clock", 3, x::clock);
        Check.is(4, "parcelCount", 1, x::parcelCount);
        Check.is(4, "load replaces all", 1, () -> Check.load(x, "stop z;"));
        Check.is(4, "clock of the new text", 0, x::clock);
        Check.is(4, "trackCount of the new text", 0, x::trackCount);
        Check.is(4, "parcelCount of the new text", 0, x::parcelCount);
        Check.is(65, "undoDepth after three loads", 3, x::undoDepth);
    }

    private static void order() {
        ParcelRailway x = Check.loaded("stop a;stop b;track a b 2;run 5;train 1 a b;inspect b 4;run 1;inspect b 6;"
                + "parcel b a 3;run 2;close a b;run 7;");
        Check.is(4, "clock", 15, x::clock);
        Check.is(4, "inspectionTime(1)", 6, () -> x.inspectionTime(1));
        Check.is(4, "the train arrived in minute 8, loaded, and waits for the track: delay", 7, () -> x.delay(0));
        Check.is(4, "parcelTrain(0)", 0, () -> x.parcelTrain(0));
    }

    private static void cutOff(String text, int length, int code, int position) {
        ParcelRailway x = new ParcelRailway();
        Check.append(x, text);
        Check.is(3, "truncateInput(" + length + ")", length, () -> x.truncateInput(length));
        Check.fails(4, "load of a text that was cut off", IllegalArgumentException.class, x::load);
        Check.is(5, "errorCode of a text that was cut off", code, x::errorCode);
        Check.is(6, "errorPosition of a text that was cut off", position, x::errorPosition);
    }

    private static void cutTextsAreForgotten() {
        cutOff("stop abcde;", 9, 1, 9);
        cutOff("stop abcd;", 7, 1, 7);
        cutOff("stop a;run 61;", 12, 1, 12);
        cutOff("stop a;run 61;", 13, 2, 11);
        cutOff("stop a;", 6, 1, 6);
        cutOff("stop a;", 4, 1, 4);
        cutOff("stop a;", 3, 1, 0);
        ParcelRailway x = new ParcelRailway();
        Check.append(x, "stop abcdefgh;stop b;");
        x.truncateInput(6);
        Check.append(x, ";");
        Check.is(4, "load of a text that was cut off and went on", 1, x::load);
        Check.append(x, "stop a;stop b;");
        x.truncateInput(0);
        Check.is(4, "load of a text that was cut off wholly", 0, x::load);
    }

    private static void nothingIsLeftBehind() {
        ParcelRailway x = Check.loaded("stop a;stop b;stop c;track a b 1;track b c 1;inspect a 1;inspect b 2;inspect c 3;"
                + "train 1 a b;train 1 b c;parcel a c 9;close a b;run 5;");
        x.setTrackOpen(0, 1, true);
        x.pass(9);
        Check.load(x, "stop p;stop q;request r;inspect p 4;");
        Check.is(18, "distance without tracks", -1, () -> x.distance(0, 1));
        Check.is(18, "distance without tracks", -1, () -> x.distance(2, 1));
        Check.is(13, "inspectionTime(0) of the text", 4, () -> x.inspectionTime(0));
        Check.is(13, "inspectionTime(1) of a new station", 0, () -> x.inspectionTime(1));
        Check.is(13, "inspectionTime(2) of a new station", 0, () -> x.inspectionTime(2));
        for (String start : new String[] {"run 7;", ""}) {
            Check.load(x, "stop a;stop b;stop c;track a b 1;track b c 1;train 1 a b;train 1 b c;parcel a c 9;"
                    + "inspect b 5;close b a;" + start);
            x.setTrackOpen(1, 0, true);
            x.pass(9);
            Check.load(x, "stop a;stop b;track a b 4;train 1 b a;train 2 a b;parcel a b 1;");
            for (int train = 0; train < 2; train++) {
                int t = train;
                Check.is(28, "delay of a new train", 0, () -> x.delay(t));
                Check.is(29, "stopsMade of a new train", 0, () -> x.stopsMade(t));
                Check.is(30, "stopsPassed of a new train", 0, () -> x.stopsPassed(t));
                Check.is(27, "minutesToNext of a new train", -1, () -> x.minutesToNext(t));
                Check.is(24, "trainStation of a new train", 1 - t, () -> x.trainStation(t));
                Check.holds(26, "isForward of a new train", true, () -> x.isForward(t));
            }
            Check.is(37, "transfers of a new parcel", 0, () -> x.transfers(0));
            Check.is(34, "parcelStation of a new parcel", 0, () -> x.parcelStation(0));
            Check.holds(38, "isHeld of a new parcel", false, () -> x.isHeld(0));
            Check.is(39, "deliveryClock of a new parcel", -1, () -> x.deliveryClock(0));
            Check.is(43, "loadingBalance", 0, x::loadingBalance);
        }
    }

    public static void main(String[] args) {
        buffer();
        byteOrder();
        goodTexts();
        notAllowed();
        outOfRange();
        names();
        pairs();
        limits();
        aWholeLoad();
        order();
        cutTextsAreForgotten();
        nothingIsLeftBehind();
        Check.finish("InputTest");
    }
}

/** Section 5 of the document: the input text. */
final class TextSentences extends Sentences {
    private static final String TWO = "stop a;stop b;track a b 1;";
    private static final String EIGHT = "stop a;stop b;stop c;stop d;request e;stop f;stop g;stop h;";
    private static final String TWELVE = EIGHT + "track a b 1;track a c 1;track a d 1;track a e 1;track a f 1;track a g 1;"
            + "track a h 1;track b c 1;track b d 1;track b e 1;track b f 1;track b g 1;";

    static void tell() {
        under("Terms 5");
        buffer();
        tokens();
        statements();
        runs();
        order();
        positions();
        codeOne();
        codesTwoToFour();
        codeFive();
        codeSix();
    }

    private static void buffer() {
        says("The input buffer holds at most 600 bytes.", () -> {
            ParcelRailway x = new ParcelRailway();
            String text = "stop a;stop b;track a b 1;" + "close a b;".repeat(56) + "request long;";
            is("the length of the text", 599, text::length);
            is("load of 600 bytes", 3, () -> Check.load(x, "\n" + text));
            holds("the last statement was read", true, () -> x.isRequestStop(2));
            Check.append(x, " ".repeat(600));
            fails("appendInput to 620 bytes", BAD_STATE, () -> x.appendInput(0, 0, 0, 0, 0));
            is("truncateInput(600)", 600, () -> x.truncateInput(600));
        });
        says("The sequence may be empty.", () -> {
            ParcelRailway x = new ParcelRailway();
            is("load of the empty buffer", 0, x::load);
            is("errorCode", 0, x::errorCode);
            is("trackCount", 0, x::trackCount);
            is("trainCount", 0, x::trainCount);
            is("parcelCount", 0, x::parcelCount);
            is("clock", 0, x::clock);
            is("load of blanks only", 0, () -> Check.load(new ParcelRailway(), " \n  \n"));
        });
    }

    private static void tokens() {
        says("A word is a maximal run of the letters a to z.", () -> {
            accepted("stop azaz;request zaza;");
            refused("stopa;", 1, 0);
            refused("stops a;", 1, 0);
            refused("stop a b;", 1, 7);
            refused("stop `;", 1, 5);
            refused("stop {;", 1, 5);
            refused("stop A;", 1, 5);
            refused("stop aZ;", 1, 6);
            refused("stop a`;", 1, 6);
            refused("stop a{;", 1, 6);
            accepted("stop az;stop za;");
            refused("st op a;", 1, 0);
            same("a word next to a number", "a:0", Check.trains(loaded("stop a;stop b;track a b1;train1a b;")));
        });
        says("A number is a maximal run of decimal digits of any length;", () -> {
            is("a number of 560 digits", 60, () -> loaded("run " + "0".repeat(558) + "60;").clock());
            refused("run " + "9".repeat(590) + ";", 2, 4);
            refused("run 1" + "0".repeat(590) + ";", 2, 4);
            refused("run 4294967297;", 2, 4);
            refused("run 18446744073709551617;", 2, 4);
            refused("run 1 2;", 1, 6);
            refused("run /;", 1, 4);
            refused("run :;", 1, 4);
            is("a number of every digit", 9 + 28 + 37 + 46 + 50, () -> loaded("run 9;run 28;run 37;run 46;run 50;").clock());
        });
        says("leading zeros have no effect.", () -> {
            ParcelRailway x = loaded("stop a;stop b;track a b 03;train 0004 a b;parcel a b 009;inspect a 08;run 0007;");
            is("travelTime(0, 1)", 3, () -> x.travelTime(0, 1));
            is("capacity(0)", 4, () -> x.capacity(0));
            is("priority(0)", 9, () -> x.priority(0));
            is("inspectionTime(0)", 8, () -> x.inspectionTime(0));
            is("clock", 7, x::clock);
            is("clock after run 000", 0, () -> loaded("run 000;").clock());
            refused("run 0061;", 2, 4);
            refused(TWO + "parcel a b 00;", 2, 37);
        });
        says("Every other byte, except the space (32) and the line feed (10), is a token of its own.", () -> {
            for (int value = 0; value < 256; value++) {
                boolean isBlank = value == 32 || value == 10;
                boolean isWordOrNumber = value >= 'a' && value <= 'z' || value >= '0' && value <= '9';
                if (!isBlank && !isWordOrNumber && value != ';') {
                    refused("stop a" + (char) value + "stop b;", 1, 6);
                }
            }
            refused("stop a;;;", 1, 7);
            accepted("stop a;stop b;");
        });
        says("Spaces and line feeds only separate tokens.", () -> {
            is("load with many of them", 2, () -> Check.load(new ParcelRailway(),
                    "\n\n stop \n a\n;request\n\nb ;  track a\nb 7 ; \n"));
            is("load with none where none is needed", 2, () -> Check.load(new ParcelRailway(), "stop a;request b;track a b7;"));
            refused("stop a a;", 1, 7);
            refused("run 1\n2;", 1, 6);
            refused("sto\np a;", 1, 0);
        });
    }

    private static void statements() {
        says("adds a station that is a regular stop", () -> {
            holds("isRequestStop(0)", false, () -> loaded("stop a;").isRequestStop(0));
            accepted("stop stop;stop run;stop z;");
        });
        says("adds a station that is a request stop", () -> {
            holds("isRequestStop(0)", true, () -> loaded("request a;").isRequestStop(0));
            holds("isRequestStop(1)", true, () -> loaded("stop a;request b;").isRequestStop(1));
        });
        says("adds a track", () -> {
            ParcelRailway x = loaded(TWO + "stop c;track c b 4;");
            is("trackCount", 2, x::trackCount);
            is("travelTime(1, 2)", 4, () -> x.travelTime(1, 2));
            is("travelTime(0, 2)", -1, () -> x.travelTime(0, 2));
            ParcelRailway y = loaded("stop a;stop b;stop c;track a c 5;");
            is("travelTime(0, 2)", 5, () -> y.travelTime(0, 2));
            is("travelTime(0, 1)", -1, () -> y.travelTime(0, 1));
        });
        says("adds a train; the names are its route", () -> {
            ParcelRailway x = loaded(TWO + "stop c;track b c 1;train 2 c b a b;");
            is("trainCount", 1, x::trainCount);
            is("routeLength(0)", 4, () -> x.routeLength(0));
            is("routeStation(0, 0)", 2, () -> x.routeStation(0, 0));
            is("routeStation(0, 1)", 1, () -> x.routeStation(0, 1));
            is("routeStation(0, 2)", 0, () -> x.routeStation(0, 2));
            is("routeStation(0, 3)", 1, () -> x.routeStation(0, 3));
        });
        says("adds a parcel with an origin and a destination", () -> {
            ParcelRailway x = loaded(TWO + "parcel b a 3;");
            is("origin(0)", 1, () -> x.origin(0));
            is("destination(0)", 0, () -> x.destination(0));
            is("priority(0)", 3, () -> x.priority(0));
        });
        says("sets the inspection time of a station", () -> {
            ParcelRailway x = loaded(TWO + "inspect b 4;inspect b 6;");
            is("inspectionTime(0)", 0, () -> x.inspectionTime(0));
            is("inspectionTime(1)", 6, () -> x.inspectionTime(1));
        });
        says("closes a track", () -> {
            ParcelRailway x = loaded(TWO + "stop c;track b c 1;close b a;");
            holds("isTrackOpen(0, 1)", false, () -> x.isTrackOpen(0, 1));
            holds("isTrackOpen(1, 2)", true, () -> x.isTrackOpen(1, 2));
            holds("isTrackOpen(0, 1) of a track closed twice", false,
                    () -> loaded(TWO + "close b a;close a b;").isTrackOpen(0, 1));
        });
    }

    private static void runs() {
        says("minutes pass, 0 to 60", () -> {
            is("clock after run 0", 0, () -> loaded("run 0;").clock());
            is("clock after run 60", 60, () -> loaded("run 60;").clock());
            is("clock after run 60 and run 60", 120, () -> loaded("run 60;run 60;").clock());
            refused("run 61;", 2, 4);
            same("the train", "b:0", Check.trains(loaded(TWO + "train 1 a b;run 2;")));
        });
    }

    private static void order() {
        says("The statements are executed in the order of the text.", () -> {
            String loop = "stop a;stop b;track a b 1;train 1 a b;";
            is("delay(0) of run before close", 0, () -> loaded(loop + "run 2;close a b;").delay(0));
            is("delay(0) of close before run", 2, () -> loaded(loop + "close a b;run 2;").delay(0));
            is("deliveryClock(0) of a parcel added after minutes", 6, () -> loaded(loop + "run 4;parcel a b 1;run 2;")
                    .deliveryClock(0));
            refused("stop a;track a b 1;stop b;", 4, 15);
            refused("stop a;stop b;close a b;track a b 1;", 5, 22);
        });
        says("The parser reads the tokens from left to right and stops at the first token that has an error.", () -> {
            refused("stop abcde stop", 2, 5);
            refused("stop a;stop a;stop abcde;?", 3, 12);
            refused(TWO + "parcel a a 0;", 5, 35);
            refused(TWO + "parcel x a 0;", 4, 33);
            refused(TWO + "train 0 x", 2, 32);
            refused(TWO + "track a b 0;", 5, 34);
            refused(TWO + "close x y", 4, 32);
            refused("? stop abcde", 1, 0);
        });
        says("If that token has several errors, the smallest error code applies.", () -> {
            refused(TWO + "train 1 a b a b a b x;", 4, 46);
            refused(TWO + "train 1 a b a b a b b;", 5, 46);
            refused(TWO + "stop c;train 1 a b a b a b c;", 5, 53);
            refused(TWO + "train 1 a b a b a b 1;", 1, 46);
            refused(TWO + "close a x;", 4, 34);
            refused(TWO + "train 1 a x;", 4, 36);
        });
    }

    private static void positions() {
        says("The error position is the offset of the first byte of the token;", () -> {
            refused("run 12345;", 2, 4);
            refused("run\n\n  0000012345;", 2, 7);
            refused("stop\nabcdefgh;", 2, 5);
            refused("stop a;\n inspect  abcd 1;", 4, 18);
            refused("?", 1, 0);
            refused(" \n?", 1, 2);
            refused("stop a;" + " ".repeat(592) + "?", 1, 599);
        });
        says("it is the length of the text if the text ends too early.", () -> {
            refused("stop", 1, 4);
            refused("stop ", 1, 5);
            refused("stop a", 1, 6);
            refused("stop a;run 5 \n", 1, 14);
            refused("stop a;" + " ".repeat(588) + "stop ", 1, 600);
            refused("stop a;" + " ".repeat(589) + "stop", 1, 600);
        });
    }

    private static void codeOne() {
        says("1  the token is not allowed here", () -> {
            refused(";", 1, 0);
            refused("a;", 1, 0);
            refused("5;", 1, 0);
            refused("stop 5;", 1, 5);
            refused("request ;", 1, 8);
            refused("track 5 5 5;", 1, 6);
            refused(TWO + "track a 5 5;", 1, 34);
            refused(TWO + "stop c;track a c c;", 1, 43);
            refused(TWO + "stop c;track a c 1 1;", 1, 45);
            refused(TWO + "train a b;", 1, 32);
            refused(TWO + "train 1 1 b;", 1, 34);
            refused(TWO + "train 1 a ;", 1, 36);
            refused(TWO + "train 1 a b ?;", 1, 38);
            refused(TWO + "parcel 1 b 1;", 1, 33);
            refused(TWO + "parcel a ; 1;", 1, 35);
            refused(TWO + "parcel a b b;", 1, 37);
            refused(TWO + "parcel a b 1 1;", 1, 39);
            refused(TWO + "inspect 1 a;", 1, 34);
            refused(TWO + "inspect a a;", 1, 36);
            refused(TWO + "inspect a 1 1;", 1, 38);
            refused(TWO + "close 1 b;", 1, 32);
            refused(TWO + "close a 1;", 1, 34);
            refused(TWO + "close a b b;", 1, 36);
            refused("run a;", 1, 4);
            refused("run 5 5;", 1, 6);
            for (String word : new String[] {"stop", "request", "track", "train", "parcel", "inspect", "close", "run"}) {
                refused("stop a;" + word.substring(1), 1, 7);
                refused("stop a;" + word.substring(0, word.length() - 1), 1, 7);
                refused("stop a;x" + word.substring(1), 1, 7);
                refused("stop a;" + word.substring(0, word.length() - 1) + "x", 1, 7);
                refused("stop a;" + word + "s", 1, 7);
                refused("stop a;x" + word, 1, 7);
            }
        });
        says("or the text ends too early", () -> {
            for (String text : new String[] {"stop c;", "request c;", "track a c 1;", "train 1 a b a;", "parcel a b 1;",
                "inspect a 1;", "close a b;", "run 5;"}) {
                String whole = TWO + "stop x;stop c;close b a;" + text;
                if (text.startsWith("stop") || text.startsWith("request")) {
                    whole = TWO + text;
                }
                accepted(whole);
                String[] words = text.replace(";", "").split(" ");
                String start = whole.substring(0, whole.length() - text.length());
                for (int i = 0; i < words.length; i++) {
                    start += (i > 0 ? " " : "") + words[i];
                    refused(start, 1, start.length());
                }
            }
        });
    }

    private static void codesTwoToFour() {
        says("2  a number is out of range;", () -> {
            refused("stop a;stop b;track a b 0;", 2, 24);
            refused("stop a;stop b;track a b 10;", 2, 24);
            refused(TWO + "train 0 a b;", 2, 32);
            refused(TWO + "train 5 a b;", 2, 32);
            refused(TWO + "parcel a b 0;", 2, 37);
            refused(TWO + "parcel a b 10;", 2, 37);
            refused(TWO + "inspect a 10;", 2, 36);
            refused("run 61;", 2, 4);
            accepted("stop a;stop b;track a b 1;train 1 a b;train 4 a b;parcel a b 1;parcel a b 9;inspect a 0;inspect a 9;"
                    + "run 0;run 60;");
            accepted("stop a;stop b;track a b 9;");
        });
        says("the name of a new station has more than 4 letters", () -> {
            refused("stop abcde;", 2, 5);
            refused("request abcde;", 2, 8);
            refused("stop " + "a".repeat(595), 2, 5);
            accepted("stop abcd;request abce;");
            refused("stop abcd;stop abcda;", 2, 15);
        });
        says("3  a station with the name of a new station exists already", () -> {
            refused("stop a;stop a;", 3, 12);
            refused("stop a;request a;", 3, 15);
            refused("request abcd;stop b;stop abcd;", 3, 25);
            accepted("stop a;stop aa;stop aaa;stop aaaa;stop b;stop ab;stop ba;stop abc;");
        });
        says("4  no station has the name (for every other name)", () -> {
            refused("stop b;track a b 1;", 4, 13);
            refused("stop a;track a b 1;", 4, 15);
            refused(TWO + "train 1 c a;", 4, 34);
            refused(TWO + "train 1 a c;", 4, 36);
            refused(TWO + "train 1 a b a b a c;", 4, 44);
            refused(TWO + "parcel c a 1;", 4, 33);
            refused(TWO + "parcel a c 1;", 4, 35);
            refused(TWO + "inspect c 1;", 4, 34);
            refused(TWO + "close c a;", 4, 32);
            refused(TWO + "close a c;", 4, 34);
            refused("stop abcd;inspect abcde 1;", 4, 18);
            refused("stop abcd;inspect xabcd 1;", 4, 18);
            refused("stop abcd;inspect abc 1;", 4, 18);
            refused("stop a;inspect b 1;stop b;", 4, 15);
        });
    }

    private static void codeFive() {
        says("5  the second name of a track or of a parcel is the first one;", () -> {
            refused("stop a;track a a 1;", 5, 15);
            refused(TWO + "track b b 1;", 5, 34);
            refused(TWO + "parcel a a 1;", 5, 35);
            refused(TWO + "parcel b b 1;", 5, 35);
            accepted("stop a;stop b;parcel a b 1;parcel b a 1;");
        });
        says("the second name of a track that exists already;", () -> {
            refused(TWO + "track a b 1;", 5, 34);
            refused(TWO + "track b a 1;", 5, 34);
            refused(TWO + "close a b;track b a 1;", 5, 44);
            accepted(TWO + "stop c;track a c 1;track c b 1;");
        });
        says("the second name of a close statement", () -> {
            refused(TWO + "close a a;", 5, 34);
            refused(TWO + "stop c;close a c;", 5, 41);
            refused(TWO + "stop c;close c b;", 5, 41);
            accepted(TWO + "close a b;close b a;");
        });
        says("or a name of a route after the first one, for which there is no track from the name before it", () -> {
            refused(TWO + "train 1 a a;", 5, 36);
            refused(TWO + "stop c;train 1 a c;", 5, 43);
            refused(TWO + "stop c;track b c 1;train 1 a b c a;", 5, 59);
            refused(TWO + "stop c;train 1 a b a b a c;", 5, 51);
            accepted(TWO + "close a b;train 1 b a b;");
            accepted(TWO + "stop c;track c b 1;train 1 a b c b a;");
        });
    }

    private static void codeSix() {
        says("6  the word stop or request when there are 8 stations", () -> {
            refused(EIGHT + "stop i;", 6, 59);
            refused(EIGHT + "request i;", 6, 59);
            refused(EIGHT + "stop", 6, 59);
            accepted(EIGHT + "run 1;");
        });
        says("track when there are 12 tracks", () -> {
            refused(TWELVE + "track c d 1;", 6, 203);
            refused(TWELVE + "track", 6, 203);
            accepted(TWELVE + "close a b;");
        });
        says("train when there are 4 trains", () -> {
            String four = TWO + "train 1 a b;".repeat(4);
            refused(four + "train 1 a b;", 6, 74);
            refused(four + "train", 6, 74);
            accepted(four + "run 1;");
        });
        says("parcel when there are 12 parcels;", () -> {
            String twelve = TWO + "parcel a b 1;".repeat(12);
            refused(twelve + "parcel a b 1;", 6, 182);
            refused(twelve + "parcel", 6, 182);
            accepted(twelve + "train 1 a b;run 60;");
            refused(twelve + "train 1 a b;run 60;parcel a b 1;", 6, 201);
        });
        says("a 7th name of a route", () -> {
            refused(TWO + "train 1 a b a b a b a;", 6, 46);
            refused(TWO + "train 1 a b a b a b a", 6, 46);
            accepted(TWO + "train 1 a b a b a b;");
        });
    }
}

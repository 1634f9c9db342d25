/** Section 4 of the document: a minute. */
final class MinuteSentences extends Sentences {
    private static final String TWO = "stop a;stop b;track a b 1;";
    /** The station in the middle is a request stop. */
    private static final String LINE = "stop a;request b;stop c;track a b 1;track b c 1;";

    static void tell() {
        under("Terms 4");
        clock();
        loading();
        departing();
        traveling();
        stopping();
        passing();
        unloading();
    }

    private static void clock() {
        says("When a minute passes, the clock is incremented;", () -> {
            ParcelRailway x = loaded("");
            is("clock after pass(1)", 1, () -> afterPass(x, 1).clock());
            is("clock after pass(60)", 61, () -> afterPass(x, 60).clock());
            is("clock after the text's run 60", 60, () -> loaded("run 60;").clock());
            is("clock after the text's run 0", 0, () -> loaded("run 0;").clock());
        });
        says("it is 0 at first.", () -> {
            is("clock after a text without run", 0, () -> loaded(LINE).clock());
            is("clock after the empty text", 0, () -> loaded("").clock());
        });
        says("Then the trains act one after the other, by ascending number.", () -> {
            // Train 0 and train 1 load the same parcel in the same minute; then train 1 unloads before train 2 loads.
            ParcelRailway x = loaded(TWO + "train 1 a b;train 1 a b;parcel a b 1;run 1;");
            is("parcelTrain: train 0 loads first", 0, () -> x.parcelTrain(0));
            String turn = "stop a;stop b;stop c;stop d;track a b 1;track b c 1;track b d 9;track d c 9;close b c;";
            is("parcelTrain: what train 0 unloads train 1 loads", 1,
                    () -> loaded(turn + "train 1 a b;train 1 b c;parcel a c 1;run 2;").parcelTrain(0));
            is("parcelTrain: what train 1 unloads train 0 does not load", -1,
                    () -> loaded(turn + "train 1 b c;train 1 a b;parcel a c 1;run 2;").parcelTrain(0));
        });
        says("A train that stands at a station first loads parcels.", () -> {
            ParcelRailway x = loaded(TWO + "train 1 a b;parcel a b 1;run 1;");
            is("parcelTrain in the minute of departing", 0, () -> x.parcelTrain(0));
            ParcelRailway shut = loaded(TWO + "train 1 a b;parcel a b 1;close a b;stop c;track b c 1;run 1;");
            is("parcelTrain where the destination has no distance: b is ahead", 0, () -> shut.parcelTrain(0));
        });
    }

    private static ParcelRailway afterPass(ParcelRailway x, int minutes) {
        x.pass(minutes);
        return x;
    }

    private static void loading() {
        says("the parcels that wait at the station are considered one after the other, the greatest priority first", () -> {
            ParcelRailway x = loaded(TWO + "train 2 a b;parcel a b 1;parcel a b 9;parcel a b 2;parcel b a 9;run 1;");
            is("carriedParcel(0, 0)", 1, () -> x.carriedParcel(0, 0));
            is("carriedParcel(0, 1)", 2, () -> x.carriedParcel(0, 1));
            is("parcelStation(0)", 0, () -> x.parcelStation(0));
        });
        says("and among equal priorities the smallest number first.", () -> {
            ParcelRailway x = loaded(TWO + "train 2 a b;parcel b a 5;parcel a b 5;parcel a b 5;parcel a b 5;run 1;");
            is("carriedParcel(0, 0)", 1, () -> x.carriedParcel(0, 0));
            is("carriedParcel(0, 1)", 2, () -> x.carriedParcel(0, 1));
            is("parcelStation(3)", 0, () -> x.parcelStation(3));
        });
        says("A parcel is loaded if the train carries fewer parcels than its capacity", () -> {
            ParcelRailway x = loaded(LINE + "train 2 a b c;parcel a c 1;parcel a b 1;parcel b c 1;parcel b c 1;run 2;");
            is("carriedCount at b, before loading", 1, () -> x.carriedCount(0));
            x.pass(1);
            is("carriedCount of a train that had room for one", 2, () -> x.carriedCount(0));
            is("parcelTrain(2)", 0, () -> x.parcelTrain(2));
            is("parcelTrain(3) beyond the capacity", -1, () -> x.parcelTrain(3));
            ParcelRailway full = loaded("stop a;stop b;stop c;track a b 1;track b c 1;train 1 a b c;parcel a c 1;parcel b c 9;"
                    + "run 3;");
            is("parcelTrain(1) of a train that is full", -1, () -> full.parcelTrain(1));
        });
        says("the parcel is not held", () -> {
            ParcelRailway x = loaded("stop a;stop b;stop c;track a b 1;track b c 1;inspect b 2;train 1 a b;parcel a c 1;"
                    + "run 2;train 1 b c;parcel b c 1;");
            holds("isHeld(0)", true, () -> x.isHeld(0));
            x.pass(1);
            is("parcelTrain of the held one, though its number is smaller", -1, () -> x.parcelTrain(0));
            is("parcelTrain of the other one", 1, () -> x.parcelTrain(1));
        });
        says("there is a drop station of the parcel for the train.", () -> {
            ParcelRailway x = loaded("stop a;stop b;stop c;track a b 1;track a c 1;train 1 a b;parcel a c 9;parcel a b 1;run 1;");
            is("parcelTrain of the one that goes elsewhere", -1, () -> x.parcelTrain(0));
            is("parcelTrain of the one that goes to b", 0, () -> x.parcelTrain(1));
        });
        says("The parcel keeps this drop station until it is unloaded.", () -> {
            ParcelRailway x = loaded("stop a;stop b;stop c;stop d;track a b 2;track b c 2;track c d 1;track b d 9;"
                    + "train 1 a b c;parcel a d 1;run 1;");
            is("dropStation(0)", 2, () -> x.dropStation(0));
            x.setTrackOpen(2, 3, false);
            is("dropStation(0) though b is nearer now", 2, () -> x.dropStation(0));
            x.pass(4);
            is("dropStation(0) behind b", 2, () -> x.dropStation(0));
            x.pass(1);
            is("dropStation(0) when it is unloaded", -1, () -> x.dropStation(0));
            is("parcelStation(0)", 2, () -> x.parcelStation(0));
        });
    }

    private static void departing() {
        says("if the track from the current station to the next station of the route is open, the train leaves the station and"
                + " starts to travel on this track.", () -> {
            ParcelRailway x = loaded(LINE + "train 1 a b;close b c;run 1;");
            same("the train", "a>b:0", Check.trains(x));
            is("minutesToNext(0)", 1, () -> x.minutesToNext(0));
            is("delay(0)", 0, () -> x.delay(0));
            ParcelRailway shut = loaded(LINE + "train 1 a b;close a b;run 1;");
            same("the train whose track is closed", "a:0", Check.trains(shut));
        });
        says("Otherwise it stays where it is, and its delay is incremented.", () -> {
            ParcelRailway x = loaded(LINE + "train 1 a b;close a b;");
            for (int minute = 1; minute <= 3; minute++) {
                int due = minute;
                x.pass(1);
                is("delay(0)", due, () -> x.delay(0));
                is("trainStation(0)", 0, () -> x.trainStation(0));
            }
            x.setTrackOpen(0, 1, true);
            x.pass(1);
            is("delay(0) of a train that leaves", 3, () -> x.delay(0));
            is("trainStation(0)", -1, () -> x.trainStation(0));
        });
    }

    private static void traveling() {
        says("the minute in which it departs does not count.", () -> {
            ParcelRailway x = loaded(TWO + "train 1 a b;run 1;");
            is("trainStation(0) in minute 1", -1, () -> x.trainStation(0));
            is("minutesToNext(0) in minute 1", 1, () -> x.minutesToNext(0));
            x.pass(1);
            is("trainStation(0) in minute 2", 1, () -> x.trainStation(0));
            ParcelRailway y = loaded("stop a;stop b;track a b 2;train 1 a b;run 2;");
            is("trainStation(0) in minute 2 of a track of 2", -1, () -> y.trainStation(0));
            y.pass(1);
            is("trainStation(0) in minute 3", 1, () -> y.trainStation(0));
        });
        says("When it has traveled as many minutes as the travel time, it arrives at the next station of its route in the same"
                + " minute.", () -> {
            for (int minutes = 1; minutes <= 9; minutes += 4) {
                int due = minutes;
                ParcelRailway x = loaded("stop a;stop b;track a b " + minutes + ";train 1 a b;run " + minutes + ";");
                is("trainStation(0) in minute " + due + " of a track of " + due, -1, () -> x.trainStation(0));
                x.pass(1);
                is("trainStation(0) one minute later", 1, () -> x.trainStation(0));
            }
        });
        says("If this station is the end of the route in its direction, its direction is reversed.", () -> {
            ParcelRailway x = loaded("stop a;stop b;stop c;track a b 1;track b c 1;train 1 a b c;");
            boolean[] forward = {true, true, true, true, false, false, false, false, true, true, true, true, false};
            for (int minute = 0; minute < forward.length; minute++) {
                boolean due = forward[minute];
                holds("isForward(0) in minute " + minute, due, () -> x.isForward(0));
                x.pass(1);
            }
        });
    }

    private static void stopping() {
        says("An arriving train stops if the station is a regular stop", () -> {
            ParcelRailway x = loaded("stop a;stop b;stop c;track a b 1;track b c 1;train 1 a b c;run 2;");
            is("stopsMade(0)", 1, () -> x.stopsMade(0));
            is("stopsPassed(0)", 0, () -> x.stopsPassed(0));
            is("trainStation(0)", 1, () -> x.trainStation(0));
        });
        says("if the station is the first or the last station of the route (by position)", () -> {
            ParcelRailway x = loaded("request a;request b;track a b 1;train 1 a b a b;run 2;");
            is("stopsPassed(0) at the station of the end that is not at the end", 1, () -> x.stopsPassed(0));
            x.pass(1);
            is("stopsPassed(0) at the station of the start that is not at the start", 2, () -> x.stopsPassed(0));
            x.pass(1);
            is("stopsMade(0) at the last position", 1, () -> x.stopsMade(0));
            is("trainStation(0) at the last position", 1, () -> x.trainStation(0));
            x.pass(4);
            is("stopsMade(0) at the first position", 2, () -> x.stopsMade(0));
            is("trainStation(0) at the first position", 0, () -> x.trainStation(0));
            is("stopsPassed(0) of the whole trip", 4, () -> x.stopsPassed(0));
        });
        says("if a parcel on the train has this drop station", () -> {
            ParcelRailway x = loaded(LINE + "train 1 a b c;parcel a b 1;run 2;");
            is("stopsMade(0)", 1, () -> x.stopsMade(0));
            is("deliveryClock(0)", 2, () -> x.deliveryClock(0));
            ParcelRailway other = loaded(LINE + "train 1 a b c;train 1 c b a;parcel a c 1;run 2;");
            is("stopsPassed(0) with a parcel for another station", 1, () -> other.stopsPassed(0));
            is("stopsPassed(1) without parcels", 1, () -> other.stopsPassed(1));
            ParcelRailway two = loaded(LINE + "train 1 a b c;train 1 a b c;parcel a b 2;parcel a c 1;run 2;");
            is("stopsMade(0) with the parcel", 1, () -> two.stopsMade(0));
            is("stopsPassed(1): the other train carries the parcel", 1, () -> two.stopsPassed(1));
            ParcelRailway second = loaded(LINE + "train 1 a b c;train 1 a b c;parcel a b 1;parcel a c 2;run 2;");
            is("stopsPassed(0): the other train carries the parcel", 1, () -> second.stopsPassed(0));
            is("stopsMade(1) with the parcel", 1, () -> second.stopsMade(1));
        });
        says("or if loading at this station now", () -> {
            ParcelRailway x = loaded(LINE + "train 1 a b c;parcel b c 1;run 2;");
            is("stopsMade(0)", 1, () -> x.stopsMade(0));
            is("parcelTrain(0): it does not load yet", -1, () -> x.parcelTrain(0));
            ParcelRailway behind = loaded(LINE + "train 1 a b c;parcel b a 1;run 2;");
            is("stopsPassed(0) where a parcel goes the other way", 1, () -> behind.stopsPassed(0));
            String held = LINE + "train 1 a b;parcel a c 1;inspect b ";
            is("stopsPassed(1) where the parcel is held", 1, () -> loaded(held + "3;run 2;train 1 a b c;run 2;").stopsPassed(1));
            is("stopsMade(1) in the minute in which it is free", 1,
                    () -> loaded(held + "2;run 2;train 1 a b c;run 2;").stopsMade(1));
        });
        says("with the parcels that it still carries", () -> {
            ParcelRailway x = loaded(LINE + "train 1 a b c;parcel a c 1;parcel b c 9;run 2;");
            is("stopsPassed(0) of a full train", 1, () -> x.stopsPassed(0));
            ParcelRailway y = loaded(LINE + "train 2 a b c;parcel a c 1;parcel b c 9;run 2;");
            is("stopsMade(0) of a train with room for one", 1, () -> y.stopsMade(0));
        });
        says("would load at least one parcel.", () -> {
            ParcelRailway one = loaded(LINE + "train 4 a b c;parcel b a 9;parcel b c 1;parcel b a 9;run 2;");
            is("stopsMade(0) where one of three would be loaded", 1, () -> one.stopsMade(0));
            ParcelRailway none = loaded(LINE + "train 4 a b c;parcel b a 9;parcel c b 1;parcel b a 9;run 2;");
            is("stopsPassed(0) where none would be loaded", 1, () -> none.stopsPassed(0));
            is("stopsPassed(0) without parcels", 1, () -> loaded(LINE + "train 4 a b c;run 2;").stopsPassed(0));
        });
    }

    private static void passing() {
        says("Otherwise the train passes:", () -> {
            ParcelRailway x = loaded(LINE + "train 1 a b c;run 2;");
            is("stopsPassed(0)", 1, () -> x.stopsPassed(0));
            is("stopsMade(0)", 0, () -> x.stopsMade(0));
            ParcelRailway twelve = loaded(LINE + "train 1 a b c;" + "parcel b a 1;".repeat(12) + "run 2;");
            is("stopsPassed(0) beside twelve parcels that go the other way", 1, () -> twelve.stopsPassed(0));
        });
        says("it departs at once in the same minute without loading;", () -> {
            ParcelRailway x = loaded(LINE + "train 1 a b c;parcel b a 1;run 2;");
            same("the train in the minute of arrival", "b>c:0", Check.trains(x));
            is("minutesToNext(0)", 1, () -> x.minutesToNext(0));
            is("delay(0)", 0, () -> x.delay(0));
            x.pass(1);
            same("the train one minute later", "c:0", Check.trains(x));
        });
        says("if the track is closed, it stands at the station, its delay is incremented, and it has passed all the same.", () -> {
            ParcelRailway x = loaded(LINE + "train 1 a b c;close b c;run 2;");
            same("the train in the minute of arrival", "b:0", Check.trains(x));
            is("delay(0) in the minute of arrival", 1, () -> x.delay(0));
            is("stopsPassed(0)", 1, () -> x.stopsPassed(0));
            is("stopsMade(0)", 0, () -> x.stopsMade(0));
            x.pass(1);
            is("delay(0) one minute later", 2, () -> x.delay(0));
            is("stopsPassed(0) one minute later", 1, () -> x.stopsPassed(0));
        });
        says("A train that stops does not load or depart in the minute in which it arrives.", () -> {
            ParcelRailway x = loaded("stop a;stop b;stop c;track a b 1;track b c 1;train 1 a b c;parcel b c 1;run 2;");
            same("the train in the minute of arrival", "b:0", Check.trains(x));
            is("parcelStation(0)", 1, () -> x.parcelStation(0));
            is("delay(0)", 0, () -> x.delay(0));
            x.pass(1);
            same("the train one minute later", "b>c:1", Check.trains(x));
            ParcelRailway shut = loaded("stop a;stop b;stop c;track a b 1;track b c 1;train 1 a b c;close b c;run 2;");
            is("delay(0) in the minute of arrival, the track ahead closed", 0, () -> shut.delay(0));
        });
    }

    private static void unloading() {
        says("A train that stops unloads all its parcels whose drop station is this station, by ascending number.", () -> {
            ParcelRailway x = loaded(LINE + "train 4 a b c;parcel a c 1;parcel a b 1;parcel a b 1;parcel a c 1;run 2;");
            same("the parcels", "#0 = = #0", Check.parcels(x));
            x.pass(2);
            same("the parcels at c", "= = = =", Check.parcels(x));
            ParcelRailway two = loaded(LINE + "train 1 a b c;train 1 a b;parcel a c 2;parcel a b 1;run 2;");
            same("the parcels of two trains", "#0 =", Check.parcels(two));
            ParcelRailway apart = loaded("stop a;stop b;stop c;track a b 1;track c b 3;train 1 a b;train 1 c b;parcel a b 1;"
                    + "parcel c b 1;run 2;");
            same("the parcels of a train that has arrived and of one that has not", "= #1", Check.parcels(apart));
            ParcelRailway further = loaded(LINE + "train 2 a b;parcel a c 1;parcel a b 1;run 2;");
            same("a parcel that goes further and one that does not", "@b =", Check.parcels(further));
            ParcelRailway all = loaded(TWO + "train 4 a b;" + "parcel a b 1;".repeat(4) + "run 2;");
            same("four parcels", "= = = =", Check.parcels(all));
        });
        says("An unloaded parcel whose destination is this station is delivered at the current clock.", () -> {
            ParcelRailway x = loaded("stop a;stop b;track a b 9;run 7;train 1 a b;parcel a b 1;inspect b 5;run 9;");
            is("deliveryClock(0) one minute before", -1, () -> x.deliveryClock(0));
            x.pass(1);
            is("deliveryClock(0)", 17, () -> x.deliveryClock(0));
            is("transfers(0)", 0, () -> x.transfers(0));
            x.pass(1);
            is("deliveryClock(0) one minute later", 17, () -> x.deliveryClock(0));
        });
        says("Any other unloaded parcel waits at the station, its number of transfers is incremented", () -> {
            ParcelRailway x = loaded("stop a;stop b;stop c;stop d;track a b 1;track b c 1;track c d 1;train 1 a b;train 1 b c;"
                    + "train 1 c d;parcel a d 1;run 2;");
            is("parcelStation(0)", 1, () -> x.parcelStation(0));
            is("transfers(0)", 1, () -> x.transfers(0));
            is("deliveryClock(0)", -1, () -> x.deliveryClock(0));
            x.pass(20);
            is("transfers(0) of a delivered parcel", 2, () -> x.transfers(0));
        });
        says("it is held until the clock is at least the current clock plus the inspection time of the station;", () -> {
            String text = "stop a;stop b;stop c;track a b 1;track b c 1;train 1 a b;parcel a c 1;inspect b ";
            for (int inspection = 1; inspection <= 9; inspection++) {
                ParcelRailway x = loaded(text + inspection + ";run 2;");
                ParcelRailway taken = loaded(text + inspection + ";train 1 c b;run 2;close b c;");
                for (int minute = 0; minute < inspection; minute++) {
                    holds("isHeld(0) after " + minute + " minutes", true, () -> x.isHeld(0));
                    is("parcelTrain(0) after " + minute + " minutes", -1, () -> taken.parcelTrain(0));
                    x.pass(1);
                    taken.pass(1);
                }
                holds("isHeld(0) when the clock is as great", false, () -> x.isHeld(0));
                is("parcelStation(0) when the clock is as great", 1, () -> x.parcelStation(0));
                is("parcelTrain(0) when the clock is as great", 1, () -> taken.parcelTrain(0));
            }
        });
        says("with an inspection time of 0 it is not held.", () -> {
            ParcelRailway x = loaded("stop a;stop b;stop c;track a b 1;track b c 1;train 1 a b;train 1 c b;parcel a c 1;run 2;");
            is("parcelStation(0)", 1, () -> x.parcelStation(0));
            holds("isHeld(0)", false, () -> x.isHeld(0));
            x.pass(1);
            is("parcelTrain(0)", 1, () -> x.parcelTrain(0));
        });
    }
}

import java.nio.charset.StandardCharsets;

/** What every test of the project uses: it counts wrong answers and feeds texts to a railway. */
final class Check {
    interface Call {
        double answer();
    }

    interface Question {
        boolean answer();
    }

    private static int checked = 0;
    private static int wrong = 0;

    private Check() {
    }

    static void is(int promise, String what, double want, Call call) {
        checked++;
        String got;
        try {
            double answer = call.answer();
            if (answer == want) {
                return;
            }
            got = String.valueOf(answer);
        } catch (RuntimeException e) {
            got = "throws." + e.getClass().getSimpleName();
        }
        wrong++;
        System.out.println("promise " + promise + ": " + what + " answered " + got + ", due is " + want);
    }

    static void holds(int promise, String what, boolean want, Question question) {
        is(promise, what, want ? 1 : 0, () -> question.answer() ? 1 : 0);
    }

    static void fails(int promise, String what, Class<? extends RuntimeException> want, Call call) {
        checked++;
        String got;
        try {
            got = String.valueOf(call.answer());
        } catch (RuntimeException e) {
            if (e.getClass() == want) {
                return;
            }
            got = "throws." + e.getClass().getSimpleName();
        }
        wrong++;
        System.out.println("promise " + promise + ": " + what + " answered " + got
                + ", due is throws." + want.getSimpleName());
    }

    static void same(String what, String want, String got) {
        checked++;
        if (!want.equals(got)) {
            wrong++;
            System.out.println(what + " answered " + got + ", due is " + want);
        }
    }

    static int checkedSoFar() {
        return checked;
    }

    static int wrongSoFar() {
        return wrong;
    }

    static void append(ParcelRailway railway, String text) {
        appendBytes(railway, text.getBytes(StandardCharsets.ISO_8859_1));
    }

    static void appendBytes(ParcelRailway railway, byte[] bytes) {
        int length = 0;
        for (int from = 0; from < bytes.length; from += 20) {
            int[] words = new int[5];
            for (int i = 0; i < 20; i++) {
                int value = from + i < bytes.length ? bytes[from + i] & 255 : ' ';
                words[i / 4] |= value << 24 - i % 4 * 8;
            }
            length = railway.appendInput(words[0], words[1], words[2], words[3], words[4]);
        }
        if (bytes.length > 0) {
            railway.truncateInput(length - (20 - bytes.length % 20) % 20);
        }
    }

    static int load(ParcelRailway railway, String text) {
        append(railway, text);
        return railway.load();
    }

    static ParcelRailway loaded(String text) {
        ParcelRailway railway = new ParcelRailway();
        load(railway, text);
        return railway;
    }

    /** The text has to be refused with this code at this position. */
    static void refused(String text, int code, int position) {
        ParcelRailway railway = new ParcelRailway();
        append(railway, text);
        fails(4, "load of \"" + text + "\"", IllegalArgumentException.class, railway::load);
        is(5, "errorCode of \"" + text + "\"", code, railway::errorCode);
        is(6, "errorPosition of \"" + text + "\"", position, railway::errorPosition);
    }

    /** The text has to be accepted. */
    static void accepted(String text) {
        ParcelRailway railway = new ParcelRailway();
        append(railway, text);
        is(5, "errorCode of \"" + text + "\"", 0, () -> {
            railway.load();
            return railway.errorCode();
        });
        is(6, "errorPosition of \"" + text + "\"", -1, railway::errorPosition);
    }

    static String output(ParcelRailway railway, int length) {
        StringBuilder text = new StringBuilder();
        for (int i = 0; i < length; i++) {
            text.append((char) railway.outputByte(i));
        }
        return text.toString();
    }

    static String trains(ParcelRailway railway) {
        return output(railway, railway.writeTrains());
    }

    static String parcels(ParcelRailway railway) {
        return output(railway, railway.writeParcels());
    }

    static void finish(String name) {
        System.out.println(name + ": " + (checked - wrong) + " of " + checked + " answers are as due");
        if (wrong > 0) {
            System.exit(1);
        }
    }
}

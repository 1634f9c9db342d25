/** Numbers of stations, trains and parcels that exist and that do not, in railways of several sizes. */
final class Numbers {
    enum Kind { STATION, TRAIN, PARCEL }

    interface Ask {
        double of(ParcelRailway railway, int number);
    }

    private static final String FULL = "stop a;stop b;stop c;stop d;stop e;stop f;stop g;stop h;track a b 1;track b c 1;"
            + "track c d 1;track d e 1;track e f 1;track f g 1;track g h 1;track a h 1;"
            + "train 1 a b;".repeat(4) + "parcel a b 1;".repeat(12);
    private static final String SMALL = "stop a;stop b;track a b 1;train 1 a b;parcel a b 1;";
    private static final int SIZES = 5;

    private Numbers() {
    }

    private static ParcelRailway railway(int size) {
        ParcelRailway x = new ParcelRailway();
        if (size == 1) {
            x.load();
        }
        if (size == 2 || size == 3) {
            Check.load(x, FULL);
        }
        if (size == 3) {
            Check.load(x, SMALL);
        }
        if (size == 4) {
            x.addParcel(0, 1, 1);
            Check.load(x, FULL);
            x.undo();
            x.undo();
        }
        return x;
    }

    private static int count(Kind kind, int size) {
        int[][] counts = {{4, 0, 8, 2, 4}, {2, 0, 4, 1, 2}, {4, 0, 12, 1, 4}};
        return counts[kind.ordinal()][size];
    }

    private static boolean exists(Ask ask, ParcelRailway x, int number) {
        try {
            ask.of(x, number);
        } catch (IndexOutOfBoundsException e) {
            return false;
        } catch (RuntimeException e) {
            // What else may be wrong is checked elsewhere.
        }
        return true;
    }

    /** The call has to throw IndexOutOfBoundsException for all numbers that do not exist, and only for them. */
    static void check(int promise, Kind kind, String what, Ask ask) {
        for (int size = 0; size < SIZES; size++) {
            int count = count(kind, size);
            int present = size;
            for (int number = 0; number < count; number++) {
                int n = number;
                Check.holds(promise, what + " exists: " + n + " of " + count, true, () -> exists(ask, railway(present), n));
            }
            for (int number : new int[] {-1, count, count + 1, 8, 12, 1000, Integer.MIN_VALUE, Integer.MAX_VALUE}) {
                if (number < 0 || number >= count) {
                    Check.fails(promise, what + ": " + number + " of " + count, IndexOutOfBoundsException.class,
                            () -> ask.of(railway(present), number));
                }
            }
        }
    }
}

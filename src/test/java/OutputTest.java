import java.util.NoSuchElementException;

/** Promises 59 to 61: the output. */
public final class OutputTest {
    private static void first() {
        ParcelRailway x = new ParcelRailway();
        Check.fails(61, "outputByte(0) of a new object", NoSuchElementException.class, () -> x.outputByte(0));
        Check.is(59, "writeTrains", 9, x::writeTrains);
        Check.same("the trains", "b>c:2 d:0", Check.output(x, 9));
        for (int position : new int[] {-1, 9, 10, 71, 1000, Integer.MIN_VALUE, Integer.MAX_VALUE}) {
            Check.fails(61, "outputByte(" + position + ")", NoSuchElementException.class, () -> x.outputByte(position));
        }
        Check.is(60, "writeParcels", 11, x::writeParcels);
        Check.same("the parcels", "#0 #0 @b @c", Check.output(x, 11));
        Check.fails(61, "outputByte(11)", NoSuchElementException.class, () -> x.outputByte(11));
        x.pass(60);
        Check.same("the old output stays", "#0 #0 @b @c", Check.output(x, 11));
        Check.is(60, "writeParcels discards the old output", 7, x::writeParcels);
        Check.same("the parcels", "= = = =", Check.output(x, 7));
        Check.fails(61, "outputByte(7)", NoSuchElementException.class, () -> x.outputByte(7));
        x.undo();
        Check.same("undo does not change the output", "= = = =", Check.output(x, 7));
        Check.fails(61, "outputByte(7)", NoSuchElementException.class, () -> x.outputByte(7));
        Check.load(x, "");
        Check.same("nor does load", "= = = =", Check.output(x, 7));
        Check.is(59, "writeTrains without trains", 0, x::writeTrains);
        Check.fails(61, "outputByte(0)", NoSuchElementException.class, () -> x.outputByte(0));
        Check.is(60, "writeParcels without parcels", 0, x::writeParcels);
        Check.fails(61, "outputByte(0)", NoSuchElementException.class, () -> x.outputByte(0));
    }

    private static void longest() {
        ParcelRailway x = Check.loaded("stop abcd;stop zyxw;track abcd zyxw 9;train 4 abcd zyxw;train 3 zyxw abcd;"
                + "train 2 abcd zyxw;train 1 zyxw abcd;" + "parcel abcd zyxw 1;".repeat(12));
        Check.same("the parcels", "@abcd @abcd @abcd @abcd @abcd @abcd @abcd @abcd @abcd @abcd @abcd @abcd", Check.parcels(x));
        Check.is(60, "writeParcels", 71, x::writeParcels);
        x.pass(1);
        Check.same("the trains", "abcd>zyxw:4 zyxw>abcd:0 abcd>zyxw:2 zyxw>abcd:0", Check.trains(x));
        Check.is(59, "writeTrains", 47, x::writeTrains);
        Check.same("the parcels", "#0 #0 #0 #0 #2 #2 @abcd @abcd @abcd @abcd @abcd @abcd", Check.parcels(x));
        x.pass(9);
        Check.same("the trains", "zyxw:0 abcd:0 zyxw:0 abcd:0", Check.trains(x));
        x.pass(1);
        Check.same("the parcels", "= = = = = = #1 #1 #1 #3 @abcd @abcd", Check.parcels(x));
    }

    private static void names() {
        ParcelRailway x = Check.loaded("stop a;request bb;stop ccc;track a bb 1;track bb ccc 1;train 1 a bb ccc;train 1 ccc bb;"
                + "parcel a ccc 1;parcel bb a 1;");
        Check.same("the trains", "a:0 ccc:0", Check.trains(x));
        Check.same("the parcels", "@a @bb", Check.parcels(x));
        x.pass(1);
        Check.same("the trains", "a>bb:1 ccc>bb:0", Check.trains(x));
        x.pass(1);
        Check.same("the trains", "bb>ccc:1 bb:0", Check.trains(x));
        Check.same("the parcels", "#0 @bb", Check.parcels(x));
    }

    public static void main(String[] args) {
        first();
        longest();
        names();
        Check.finish("OutputTest");
    }
}

import java.util.function.IntSupplier;

/** What a railway holds, as a text, so that two railways or two moments can be compared. */
final class Snapshot {
    private Snapshot() {
    }

    /**
     * What changes most, in some twenty-five calls: an object is used for at most 512, which leaves room for three
     * snapshots of the whole state only.
     */
    static String brief(ParcelRailway x) {
        StringBuilder text = new StringBuilder(some(x));
        text.append(' ').append(x.trackCount()).append(' ').append(x.trainCount());
        for (int i = 0; i < 4; i++) {
            int n = i;
            text.append('\n').append(answer(() -> x.priority(n))).append(' ').append(answer(() -> x.inspectionTime(n)));
            text.append(' ').append(answer(() -> x.parcelStation(n))).append(' ').append(answer(() -> x.destination(n)));
        }
        return text.append(' ').append(answer(() -> x.isTrackOpen(1, 2) ? 1 : 0)).toString();
    }

    /** Everything that the state answers; no call changes the railway. */
    static String state(ParcelRailway x) {
        StringBuilder text = new StringBuilder();
        text.append(x.clock()).append(' ').append(x.loadingBalance()).append(' ').append(x.parcelBalance());
        for (int s = 0; s < x.stationCount(); s++) {
            text.append("\n s").append(x.isRequestStop(s)).append(x.inspectionTime(s)).append(x.minutesToStop(s));
            for (int t = 0; t < x.stationCount(); t++) {
                text.append(' ').append(x.travelTime(s, t)).append(x.isTrackOpen(s, t)).append(x.distance(s, t));
            }
        }
        for (int t = 0; t < x.trainCount(); t++) {
            text.append("\n t").append(x.capacity(t)).append(x.routeLength(t)).append(' ').append(x.trainStation(t));
            text.append(' ').append(x.nextStation(t)).append(x.isForward(t)).append(x.minutesToNext(t));
            text.append(' ').append(x.delay(t)).append(' ').append(x.stopsMade(t)).append(' ').append(x.stopsPassed(t));
            for (int i = 0; i < x.routeLength(t); i++) {
                text.append(' ').append(x.routeStation(t, i));
            }
        }
        for (int p = 0; p < x.parcelCount(); p++) {
            text.append("\n p").append(x.origin(p)).append(x.destination(p)).append(x.priority(p)).append(' ');
            text.append(x.parcelStation(p)).append(' ').append(x.parcelTrain(p)).append(' ').append(x.dropStation(p));
            text.append(' ').append(x.transfers(p)).append(x.isHeld(p)).append(x.deliveryClock(p));
            text.append(' ').append(x.minutesToDelivery(p));
        }
        return text.append("\n w").append(x.worstClosure()).append(' ').append(x.trackCount()).toString();
    }

    /**
     * All that a railway of up to 40 bytes of input holds: the state, the error, the output, the buffer, the remembered
     * calls and the slots. The railway is spent afterwards.
     */
    static String everything(ParcelRailway x) {
        StringBuilder text = new StringBuilder(state(x));
        text.append("\n error ").append(x.errorCode()).append(' ').append(x.errorPosition());
        text.append("\n output ");
        String got = "";
        for (int i = 0; i < 80 && !got.startsWith("throws"); i++) {
            int position = i;
            got = answer(() -> x.outputByte(position));
            text.append(got).append(' ');
        }
        text.append("\n buffer ").append(bufferLength(x));
        text.append("\n remembered ").append(x.undoDepth());
        for (int i = x.undoDepth(); i > 0; i--) {
            text.append("\n undone ").append(answer(x::undo)).append(some(x));
        }
        for (int slot = 0; slot < 2; slot++) {
            int number = slot;
            text.append("\n slot ").append(answer(() -> x.restore(number))).append(some(x));
        }
        text.append("\n load ").append(answer(x::load)).append(some(x));
        return text.toString();
    }

    private static String some(ParcelRailway x) {
        StringBuilder text = new StringBuilder();
        text.append(' ').append(x.clock()).append(' ').append(x.parcelCount()).append(' ').append(x.stationCount());
        text.append(' ').append(answer(() -> x.priority(3))).append(' ').append(answer(() -> x.inspectionTime(0)));
        text.append(' ').append(answer(() -> x.isTrackOpen(0, 1) ? 1 : 0)).append(' ').append(answer(() -> x.parcelStation(3)));
        return text.toString();
    }

    /** The greatest length that truncateInput takes, and so the one that changes nothing. */
    private static int bufferLength(ParcelRailway x) {
        int length = 40;
        while (length > 0 && !takes(x, length)) {
            length--;
        }
        return length;
    }

    private static boolean takes(ParcelRailway x, int length) {
        return !answer(() -> x.truncateInput(length)).startsWith("throws");
    }

    private static String answer(IntSupplier call) {
        try {
            return String.valueOf(call.getAsInt());
        } catch (RuntimeException e) {
            return "throws." + e.getClass().getSimpleName();
        }
    }
}

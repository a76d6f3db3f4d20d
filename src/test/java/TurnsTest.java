/** Promises 6 to 10: request, release, cancel, setTurnLimit, pass. */
public final class TurnsTest {
    private static final Class<?> ARGUMENT = IllegalArgumentException.class;
    private static final Class<?> INDEX = IndexOutOfBoundsException.class;
    private static final Class<?> STATE = IllegalStateException.class;

    public static void main(String[] args) {
        request();
        release();
        cancel();
        setTurnLimit();
        passReceives();
        passEndsTurns();
        wrongStations();
        Check.end();
    }

    /** Stations A0, A1, .. at one place: the first ones on channel 3, the last one on channel 4. */
    private static Net crowd(int onThree) {
        Net net = new Net();
        for (int i = 0; i < onThree; i++) {
            net.addStation('A', i, 50, 50, 1, 3);
        }
        net.addStation('B', 0, 99, 99, 1, 4);
        return net;
    }

    private static void request() {
        Net net = crowd(7);
        Check.same("speaks", 0, net.request(3));
        for (int i = 0; i < 7; i++) {
            if (i != 3) {
                Check.same("waits", i < 3 ? i + 1 : i, net.request(i));
            }
        }
        Check.same("another channel", 0, net.request(7));
        Check.same("speaker", 3, net.speaker(3));
        Check.same("speaker", 7, net.speaker(4));
        Check.refuses("speaking", STATE, net, () -> net.request(3));
        Check.refuses("waiting", STATE, net, () -> net.request(0));
        Check.same("the line's end", 6, net.waiting(3, 6));
    }

    private static void release() {
        Net net = crowd(3);
        net.request(1);
        net.request(2);
        net.request(0);
        net.pass(4);
        Check.same("minutes", 4, net.release(1));
        Check.same("idle", false, net.isSpeaking(1) || net.isWaiting(1));
        Check.same("next", 2, net.speaker(3));
        Check.same("line", 1, net.lineLength(3));
        Check.same("minutes of a turn without any", 0, net.release(2));
        Check.same("next", 0, net.speaker(3));
        Check.same("log", 2, net.logLength());
        Check.same("begin", 4, net.logBegin(1));
        Check.same("minutes", 0, net.logMinutes(1));
        Check.refuses("idle", STATE, net, () -> net.release(1));
        Check.same("again", 1, net.request(1));
        Check.refuses("waiting", STATE, net, () -> net.release(1));
        net.pass(2);
        Check.same("its own turn alone", 2, net.release(0));
        net.release(1);
        Check.refuses("nobody speaks", STATE, net, () -> net.release(1));
    }

    private static void cancel() {
        Net net = crowd(5);
        for (int i = 0; i < 5; i++) {
            net.request(i);
        }
        Check.same("from the middle", 3, net.cancel(2));
        Check.same("idle", false, net.isSpeaking(2) || net.isWaiting(2));
        Check.same("first", 1, net.waiting(3, 1));
        Check.same("second", 3, net.waiting(3, 2));
        Check.same("third", 4, net.waiting(3, 3));
        Check.same("at the end again", 4, net.request(2));
        Check.same("the first", 3, net.cancel(1));
        Check.same("the last", 2, net.cancel(2));
        Check.refuses("idle", STATE, net, () -> net.cancel(2));
        Check.refuses("speaking", STATE, net, () -> net.cancel(0));
        net.cancel(3);
        Check.same("the only one", 0, net.cancel(4));
        Check.same("no turn ended", 0, net.logLength());
        net.release(0);
        Check.same("no other follows", 0, net.lineLength(3));
        Check.refuses("idle", STATE, net, () -> net.release(3));
    }

    private static void setTurnLimit() {
        Net net = crowd(2);
        Check.same("first", 10, net.setTurnLimit(60));
        Check.same("largest", 60, net.setTurnLimit(1));
        Check.same("smallest", 1, net.setTurnLimit(9));
        Check.same("turnLimit", 9, net.turnLimit());
        for (int outside : new int[] {0, -1, 61, Integer.MIN_VALUE, Integer.MAX_VALUE}) {
            Check.refuses("minutes", ARGUMENT, net, () -> net.setTurnLimit(outside));
        }
        net.request(0);
        net.request(1);
        net.pass(5);
        net.setTurnLimit(3);
        Check.same("no turn ends by the limit", 0, net.speaker(3));
        net.pass(1);
        Check.same("but by the next minute", 1, net.speaker(3));
        Check.same("minutes", 6, net.logMinutes(0));
        net.pass(2);
        net.setTurnLimit(4);
        net.pass(1);
        Check.same("a larger limit prolongs a turn", 1, net.speaker(3));
        net.pass(1);
        Check.same("to its end", 4, net.logMinutes(1));
    }

    private static void passReceives() {
        Net net = new Net();
        net.addStation('A', 0, 10, 10, 20, 3);
        net.addStation('B', 0, 10, 30, 1, 3);
        net.addStation('C', 0, 10, 31, 1, 3);
        net.addStation('D', 0, 10, 12, 40, 4);
        net.addStation('E', 0, 10, 13, 1, 4);
        Check.same("nobody speaks", 0, net.pass(60));
        Check.same("time", 60, net.time());
        net.request(0);
        net.request(1);
        Check.same("one in the range, waiting", 7, net.pass(7));
        Check.same("received", 7, net.minutesReceived(1));
        Check.same("out of the range", 0, net.minutesReceived(2));
        Check.same("spoken", 7, net.minutesSpoken(0));
        Check.same("a waiting one does not speak", 0, net.minutesSpoken(1));
        net.request(3);
        Check.same("a jams 1, and 0 jams 4", true, net.isJammed(1) && net.isJammed(4));
        Check.same("nobody receives", 0, net.pass(2));
        Check.same("a jammed speaker speaks", 9, net.minutesSpoken(0));
        Check.same("spoken", 2, net.minutesSpoken(3));
        net.release(0);
        Check.same("1 speaks in its small range, 3 is heard", 5, net.pass(5));
        Check.same("received", 5, net.minutesReceived(4));
        for (int outside : new int[] {0, -1, 61, Integer.MIN_VALUE, Integer.MAX_VALUE}) {
            Check.refuses("minutes", ARGUMENT, net, () -> net.pass(outside));
        }
    }

    private static void passEndsTurns() {
        Net net = new Net();
        for (int i = 0; i < 8; i++) {
            net.addStation('A', i, 50, 50, 99, i < 4 ? 8 : 2);
        }
        net.setTurnLimit(5);
        for (int i = 7; i >= 0; i--) {
            net.request(i);
        }
        Check.same("every other one of a channel", 2 * 3 * 20, net.pass(20));
        Check.same("log", 8, net.logLength());
        int[] stations = {3, 7, 2, 6, 1, 5, 0, 4};
        for (int i = 0; i < 8; i++) {
            Check.same("in the order of numbers", stations[i], net.logStation(i));
            Check.same("begin", i / 2 * 5, net.logBegin(i));
            Check.same("minutes", 5, net.logMinutes(i));
            Check.same("spoken", 5, net.minutesSpoken(i));
        }
        Check.same("nobody is left", "throws java.util.NoSuchElementException",
                Check.outcome(() -> net.speaker(8)));
        net.setTurnLimit(1);
        net.request(0);
        net.request(1);
        net.pass(1);
        Check.same("a turn that follows does not end in the same minute", 1, net.speaker(8));
        net.pass(1);
        Check.same("but in the next", 10, net.logLength());
    }

    private static void wrongStations() {
        Net net = crowd(2);
        for (int outside : new int[] {-1, 3, 8, Integer.MIN_VALUE, Integer.MAX_VALUE}) {
            Check.refuses("request", INDEX, net, () -> net.request(outside));
            Check.refuses("release", INDEX, net, () -> net.release(outside));
            Check.refuses("cancel", INDEX, net, () -> net.cancel(outside));
        }
    }
}

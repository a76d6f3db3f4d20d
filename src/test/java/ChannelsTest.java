import java.util.NoSuchElementException;

/** Promises 22 to 26: speaker, lineLength, waiting, and the minutes until a turn in both ways. */
public final class ChannelsTest {
    private static final Class<?> INDEX = IndexOutOfBoundsException.class;
    private static final Class<?> ELEMENT = NoSuchElementException.class;
    private static final Class<?> STATE = IllegalStateException.class;

    public static void main(String[] args) {
        lines();
        wrongChannels();
        minutesUntilTurn();
        minutesAfterTheLimitChanged();
        wrongMinutes();
        Check.end();
    }

    private static void lines() {
        Net net = new Net();
        for (int i = 0; i < 8; i++) {
            net.addStation('A', i, 0, 0, 1, i % 2 * 9);
        }
        Check.refuses("nobody speaks", ELEMENT, net, () -> net.speaker(0));
        Check.same("no line", 0, net.lineLength(0));
        for (int i = 7; i >= 0; i--) {
            net.request(i);
        }
        Check.same("speaker", 6, net.speaker(0));
        Check.same("speaker", 7, net.speaker(9));
        Check.same("lineLength", 3, net.lineLength(0));
        Check.same("lineLength", 3, net.lineLength(9));
        for (int i = 1; i <= 3; i++) {
            Check.same("waiting", 6 - 2 * i, net.waiting(0, i));
            Check.same("waiting", 7 - 2 * i, net.waiting(9, i));
        }
        for (int outside : new int[] {0, -1, 4, 8, Integer.MIN_VALUE, Integer.MAX_VALUE}) {
            Check.refuses("position", ELEMENT, net, () -> net.waiting(0, outside));
        }
        net.release(6);
        Check.same("speaker", 4, net.speaker(0));
        Check.same("waiting", 2, net.waiting(0, 1));
        Check.refuses("position", ELEMENT, net, () -> net.waiting(0, 3));
        Check.refuses("position", ELEMENT, net, () -> net.waiting(5, 1));
        Check.same("the other channel", 3, net.lineLength(9));
    }

    private static void wrongChannels() {
        Net net = new Net();
        net.addStation('A', 0, 0, 0, 1, 9);
        for (int outside : new int[] {-1, 10, Integer.MIN_VALUE, Integer.MAX_VALUE}) {
            Check.refuses("speaker", INDEX, net, () -> net.speaker(outside));
            Check.refuses("lineLength", INDEX, net, () -> net.lineLength(outside));
            Check.refuses("waiting", INDEX, net, () -> net.waiting(outside, 1));
            Check.refuses("waiting", INDEX, net, () -> net.waiting(outside, 0));
        }
    }

    private static Net line() {
        Net net = new Net();
        for (int i = 0; i < 8; i++) {
            net.addStation('A', i, 0, 0, 1, 6);
            net.request(i);
        }
        return net;
    }

    private static void minutesUntilTurn() {
        Net net = line();
        for (int limit : new int[] {1, 10, 60}) {
            net.setTurnLimit(limit);
            for (int i = 1; i < 8; i++) {
                minutesAre(net, limit * i, i);
            }
        }
        net.setTurnLimit(10);
        net.pass(3);
        Check.tells("minutesUntilTurn", 7, net, () -> net.minutesUntilTurn(1));
        Check.tells("by simulation", 7, net, () -> net.minutesUntilTurnBySimulation(1));
        Check.tells("minutesUntilTurn", 67, net, () -> net.minutesUntilTurn(7));
        Check.tells("by simulation", 67, net, () -> net.minutesUntilTurnBySimulation(7));
        net.pass(7);
        minutesAre(net, 10, 2);
        net.cancel(2);
        minutesAre(net, 10, 3);
        net.request(2);
        minutesAre(net, 60, 2);
        net.tune(0, 5);
        net.request(0);
        minutesAre(net, 60, 2);
    }

    private static void minutesAfterTheLimitChanged() {
        Net net = line();
        net.pass(6);
        net.setTurnLimit(4);
        minutesAre(net, 1, 1);
        minutesAre(net, 5, 2);
        net.setTurnLimit(6);
        minutesAre(net, 1, 1);
        minutesAre(net, 7, 2);
        net.setTurnLimit(60);
        minutesAre(net, 54, 1);
        minutesAre(net, 54 + 6 * 60, 7);
        net.pass(54);
        Check.same("it speaks then", true, net.isSpeaking(1));
    }

    private static void minutesAre(Net net, int minutes, int station) {
        Check.same("minutesUntilTurn", minutes, net.minutesUntilTurn(station));
        Check.same("by simulation", minutes, net.minutesUntilTurnBySimulation(station));
    }

    private static void wrongMinutes() {
        Net net = new Net();
        net.addStation('A', 0, 0, 0, 1, 6);
        for (int outside : new int[] {-1, 1, 8, Integer.MIN_VALUE, Integer.MAX_VALUE}) {
            Check.refuses("station", INDEX, net, () -> net.minutesUntilTurn(outside));
            Check.refuses("station", INDEX, net, () -> net.minutesUntilTurnBySimulation(outside));
        }
        Check.refuses("idle", STATE, net, () -> net.minutesUntilTurn(0));
        Check.refuses("idle", STATE, net, () -> net.minutesUntilTurnBySimulation(0));
        net.request(0);
        Check.refuses("speaking", STATE, net, () -> net.minutesUntilTurn(0));
        Check.refuses("speaking", STATE, net, () -> net.minutesUntilTurnBySimulation(0));
    }
}

/** The edges of promises 6 to 10 and of the sentences on turns and minutes. */
public final class TurnEdgesTest {
    private static final Class<?> ARGUMENT = IllegalArgumentException.class;
    private static final Class<?> INDEX = IndexOutOfBoundsException.class;
    private static final Class<?> STATE = IllegalStateException.class;
    private static final String NOBODY = "throws java.util.NoSuchElementException";

    public static void main(String[] args) {
        requestAnswers();
        requestOfIdleAlone();
        oneSpeakerOnEachChannel();
        releaseAnswers();
        releaseOfSpeakingAlone();
        nextOfTheLine();
        cancelAnswers();
        cancelKeepsTheOrder();
        cancelOfWaitingAlone();
        turnLimitRange();
        noTurnEndsByTheLimit();
        atLeastAsManyMinutes();
        turnsThatTheLimitOvertakes();
        minutesRange();
        passAnswers();
        endsInTheOrderOfNumbers();
        speaksFromTheNextMinuteOn();
        jammedSpeakersSpeak();
        jammedListenersReceiveNothing();
        listenersOfEveryMode();
        stationsThatDoNotExist();
        Check.end();
    }

    /** "Returns 0 if the station is speaking afterwards, otherwise its position in the line": 0 to 7 */
    private static void requestAnswers() {
        Net net = Nets.crowd(8);
        Check.same("an empty line and nobody speaks", 0, net.request(5));
        int position = 1;
        for (int station : new int[] {7, 0, 6, 1, 4, 2, 3}) {
            Check.same("position", position, net.request(station));
            Check.same("in the line", station, net.waiting(3, position));
            position++;
        }
        Check.same("the full line", 7, net.lineLength(3));
        net.release(5);
        Check.same("at the end of the line", 7, net.request(5));
        Check.same("in the line", 5, net.waiting(3, 7));
        Check.same("first in the line", 0, net.waiting(3, 1));
    }

    /** "Throws IllegalStateException if the station is not idle" */
    private static void requestOfIdleAlone() {
        Net net = Nets.line(8);
        Check.refuses("speaking", STATE, net, () -> net.request(0));
        Check.refuses("waiting first", STATE, net, () -> net.request(1));
        Check.refuses("waiting last", STATE, net, () -> net.request(7));
        net.cancel(7);
        Check.same("idle again after waiting", 7, net.request(7));
        net.release(0);
        Check.same("idle again after speaking", 7, net.request(0));
    }

    /** "On each channel at most one station is speaking, and only then stations can be waiting" */
    private static void oneSpeakerOnEachChannel() {
        Net net = new Net();
        for (int i = 0; i < 8; i++) {
            net.addStation('A', i, 50, 50, 1, i % 2 * 9);
        }
        for (int i = 0; i < 8; i++) {
            Check.same("the first of a channel speaks", i / 2, net.request(i));
        }
        Check.same("speaker", 0, net.speaker(0));
        Check.same("speaker", 1, net.speaker(9));
        int speaking = 0;
        for (int i = 0; i < 8; i++) {
            speaking += net.isSpeaking(i) ? 1 : 0;
        }
        Check.same("speakers", 2, speaking);
        Check.same("lines", 6, net.lineLength(0) + net.lineLength(9));
        for (int i = 0; i < 8; i++) {
            net.release(i);
        }
        Check.same("lines", 0, net.lineLength(0) + net.lineLength(9));
        Check.same("speaker", NOBODY, Check.outcome(() -> net.speaker(0)));
        Check.same("speaker", NOBODY, Check.outcome(() -> net.speaker(9)));
        Check.same("who comes first speaks again", 0, net.request(6));
    }

    /** "Returns the number of minutes that the turn lasted.": from 0 on, 59 below the largest limit */
    private static void releaseAnswers() {
        Net net = Nets.crowd(2);
        net.setTurnLimit(60);
        net.request(0);
        Check.same("no minute", 0, net.release(0));
        net.request(0);
        net.pass(1);
        Check.same("one minute", 1, net.release(0));
        net.request(0);
        net.pass(59);
        net.setTurnLimit(1);
        Check.same("59 minutes", 59, net.release(0));
        net.request(0);
        net.request(1);
        net.release(0);
        Check.same("a turn that began by the end of another", 0, net.release(1));
    }

    /** "Throws IllegalStateException if the station is not speaking" */
    private static void releaseOfSpeakingAlone() {
        Net net = Nets.line(3);
        Check.refuses("waiting first", STATE, net, () -> net.release(1));
        Check.refuses("waiting last", STATE, net, () -> net.release(2));
        net.cancel(2);
        Check.refuses("idle after waiting", STATE, net, () -> net.release(2));
        net.release(0);
        Check.refuses("idle after speaking", STATE, net, () -> net.release(0));
        net.pass(10);
        Check.refuses("idle after the limit", STATE, net, () -> net.release(1));
    }

    /** "the first station of the line of its channel, if there is one, leaves the line and .. speak" */
    private static void nextOfTheLine() {
        Net net = Nets.line(8);
        for (int i = 0; i < 7; i++) {
            net.release(i);
            Check.same("the ended one is idle", false, net.isSpeaking(i) || net.isWaiting(i));
            Check.same("the first begins", i + 1, net.speaker(3));
            Check.same("and does not wait", false, net.isWaiting(i + 1));
            Check.same("the others are left", 6 - i, net.lineLength(3));
        }
        net.release(7);
        Check.same("the line was empty", NOBODY, Check.outcome(() -> net.speaker(3)));
        Check.same("all are idle", 0, net.request(0));
    }

    /** "Returns the number of stations that are left in the line.": 6 to 0 */
    private static void cancelAnswers() {
        Net net = Nets.line(8);
        for (int i = 7; i >= 1; i--) {
            Check.same("left", i - 1, net.cancel(i));
            Check.same("lineLength", i - 1, net.lineLength(3));
            Check.same("idle", false, net.isSpeaking(i) || net.isWaiting(i));
        }
        Check.same("it still speaks", 0, net.speaker(3));
        Check.same("that is no end of a turn", 0, net.logLength());
        Check.same("the line can be filled again", 1, net.request(4));
        Net other = Nets.line(3);
        other.addStation('B', 0, 0, 0, 1, 4);
        other.addStation('B', 1, 0, 0, 1, 4);
        other.request(3);
        other.request(4);
        Check.same("of its own channel", 0, other.cancel(4));
        Check.same("of its own channel", 1, other.cancel(1));
    }

    private static void cancelKeepsTheOrder() {
        Net net = Nets.line(6);
        net.cancel(3);
        lineIs(net, 1, 2, 4, 5);
        net.cancel(1);
        lineIs(net, 2, 4, 5);
        net.cancel(5);
        lineIs(net, 2, 4);
        net.request(1);
        lineIs(net, 2, 4, 1);
        net.release(0);
        lineIs(net, 4, 1);
    }

    private static void lineIs(Net net, int... stations) {
        Check.same("lineLength", stations.length, net.lineLength(3));
        for (int i = 0; i < stations.length; i++) {
            Check.same("waiting", stations[i], net.waiting(3, i + 1));
        }
    }

    /** "Throws IllegalStateException if the station is not waiting" */
    private static void cancelOfWaitingAlone() {
        Net net = Nets.line(2);
        Check.refuses("speaking", STATE, net, () -> net.cancel(0));
        net.release(0);
        Check.refuses("idle", STATE, net, () -> net.cancel(0));
        Check.refuses("it has left the line to speak", STATE, net, () -> net.cancel(1));
        net.request(0);
        net.cancel(0);
        Check.refuses("cancelled already", STATE, net, () -> net.cancel(0));
    }

    /** "a number of minutes from 1 to 60, initially 10", "Returns the previous limit." */
    private static void turnLimitRange() {
        Net net = Nets.line(2);
        Check.same("initially", 10, net.turnLimit());
        Check.same("to the smallest", 10, net.setTurnLimit(1));
        Check.same("turnLimit", 1, net.turnLimit());
        Check.same("to the largest", 1, net.setTurnLimit(60));
        Check.same("turnLimit", 60, net.turnLimit());
        Check.same("to what it was", 60, net.setTurnLimit(60));
        for (int outside : new int[] {0, 61, -1, Integer.MIN_VALUE, Integer.MAX_VALUE}) {
            Check.refuses("limit " + outside, ARGUMENT, net, () -> net.setTurnLimit(outside));
        }
        Check.same("turnLimit", 60, net.turnLimit());
    }

    /** "No turn ends before the next minute by that." */
    private static void noTurnEndsByTheLimit() {
        Net net = Nets.line(2);
        net.pass(9);
        net.setTurnLimit(1);
        Check.same("it still speaks", 0, net.speaker(3));
        Check.same("no turn has ended", 0, net.logLength());
        net.setTurnLimit(60);
        net.setTurnLimit(9);
        Check.same("it still speaks", 0, net.speaker(3));
        net.pass(1);
        Check.same("the next minute ends it", 1, net.speaker(3));
        Check.same("logMinutes", 10, net.logMinutes(0));
    }

    /** "whose turn has lasted for at least as many minutes as the turn limit" */
    private static void atLeastAsManyMinutes() {
        for (int limit : new int[] {1, 2, 10, 59, 60}) {
            Net net = Nets.line(2);
            net.setTurnLimit(limit);
            if (limit > 1) {
                net.pass(limit - 1);
            }
            Check.same("a minute less than " + limit, 0, net.speaker(3));
            Check.same("logLength", 0, net.logLength());
            net.pass(1);
            Check.same("exactly " + limit, 1, net.speaker(3));
            Check.same("logLength", 1, net.logLength());
            Check.same("logMinutes", limit, net.logMinutes(0));
            Check.same("isSpeaking", false, net.isSpeaking(0));
        }
    }

    private static void turnsThatTheLimitOvertakes() {
        for (int limit = 3; limit <= 7; limit++) {
            Net net = Nets.line(2);
            net.pass(5);
            net.setTurnLimit(limit);
            net.pass(1);
            Check.same("speaker with limit " + limit, limit <= 6 ? 1 : 0, net.speaker(3));
            Check.same("logLength", limit <= 6 ? 1 : 0, net.logLength());
        }
    }

    /** "the number of minutes, 1 to 60" */
    private static void minutesRange() {
        Net net = Nets.line(2);
        net.setTurnLimit(60);
        net.pass(1);
        Check.same("the smallest", 1, net.time());
        net.pass(60);
        Check.same("the largest", 61, net.time());
        Check.same("speaker", 1, net.speaker(3));
        for (int outside : new int[] {0, 61, -1, Integer.MIN_VALUE, Integer.MAX_VALUE}) {
            Check.refuses("minutes " + outside, ARGUMENT, net, () -> net.pass(outside));
        }
        Check.same("time", 61, net.time());
    }

    /** "Returns the number of minutes that all stations together receive.": 0 to 7 * 60 */
    private static void passAnswers() {
        Check.same("no stations", 0, new Net().pass(60));
        Check.same("nobody speaks", 0, Nets.crowd(8).pass(60));
        Check.same("nobody listens", 0, Nets.line(1).pass(60));
        Check.same("one listener, one minute", 1, Nets.line(2).pass(1));
        Net net = Nets.crowd(8);
        net.setTurnLimit(60);
        net.request(0);
        Check.same("seven listeners", 7 * 60, net.pass(60));
        Check.same("after the turn", 0, net.pass(1));
        net.request(0);
        net.pass(59);
        Check.same("the last minute of a turn counts", 7, net.pass(2));
        Check.same("minutesReceived", 120, net.minutesReceived(7));
        Check.same("minutesReceived", 0, net.minutesReceived(0));
    }

    /** "in the order of the numbers of these stations" */
    private static void endsInTheOrderOfNumbers() {
        Net net = new Net();
        for (int i = 0; i < 8; i++) {
            net.addStation('A', i, 0, 0, 1, 9 - i);
        }
        net.setTurnLimit(3);
        for (int station : new int[] {5, 2, 7, 0, 3, 6, 1, 4}) {
            net.request(station);
        }
        net.pass(2);
        Check.same("no turn has ended", 0, net.logLength());
        net.pass(1);
        Check.same("all in one minute", 8, net.logLength());
        for (int i = 0; i < 8; i++) {
            Check.same("logStation", i, net.logStation(i));
            Check.same("logBegin", 0, net.logBegin(i));
            Check.same("logMinutes", 3, net.logMinutes(i));
        }
    }

    /** "a station that begins to speak by that speaks from the next minute on" */
    private static void speaksFromTheNextMinuteOn() {
        Net net = Nets.crowd(4);
        net.setTurnLimit(1);
        for (int station : new int[] {2, 3, 0, 1}) {
            net.request(station);
        }
        int[] order = {2, 3, 0, 1};
        for (int i = 0; i < 4; i++) {
            Check.same("speaker", order[i], net.speaker(3));
            Check.same("not yet", 0, net.minutesSpoken(order[i]));
            Check.same("the three others listen", 3, net.pass(1));
            Check.same("one minute", 1, net.minutesSpoken(order[i]));
            Check.same("one end in each minute", i + 1, net.logLength());
            Check.same("logStation", order[i], net.logStation(i));
            Check.same("logBegin", i, net.logBegin(i));
            Check.same("logMinutes", 1, net.logMinutes(i));
        }
        Check.same("nobody is left", NOBODY, Check.outcome(() -> net.speaker(3)));
    }

    /** "every speaking station, whether it is jammed or not, speaks for one minute more" */
    private static void jammedSpeakersSpeak() {
        Net net = Nets.speakers(3);
        Check.same("all are jammed", true, net.isJammed(0) && net.isJammed(1) && net.isJammed(2));
        net.pass(4);
        for (int i = 0; i < 3; i++) {
            Check.same("minutesSpoken", 4, net.minutesSpoken(i));
        }
        net.pass(6);
        for (int i = 0; i < 3; i++) {
            Check.same("minutesSpoken", 10, net.minutesSpoken(i));
            Check.same("logMinutes", 10, net.logMinutes(i));
        }
    }

    /** "every station that can hear a speaking station and is not jammed by any station" */
    private static void jammedListenersReceiveNothing() {
        Net net = new Net();
        net.addStation('A', 0, 10, 10, 9, 3);
        net.addStation('B', 0, 10, 19, 1, 3);
        net.addStation('C', 0, 10, 20, 1, 3);
        net.addStation('D', 0, 10, 29, 20, 4);
        net.addStation('E', 0, 10, 29, 19, 2);
        net.request(0);
        Check.same("one hears it, one is a step too far", 1, net.pass(1));
        net.request(3);
        Check.same("jammed from above", 0, net.pass(1));
        net.release(3);
        Check.same("free again", 1, net.pass(1));
        net.request(4);
        Check.same("a little too weak to jam", 1, net.pass(1));
        net.setPower(4, 20);
        Check.same("jammed from below", 0, net.pass(1));
        net.request(3);
        Check.same("from both sides", 0, net.pass(1));
        net.release(4);
        Check.same("one that jams is enough", 0, net.pass(1));
        net.release(3);
        Check.same("free again", 1, net.pass(1));
        Check.same("minutesReceived", 4, net.minutesReceived(1));
        Check.same("minutesReceived", 0, net.minutesReceived(2));
        Check.same("minutesSpoken", 8, net.minutesSpoken(0));
    }

    private static void listenersOfEveryMode() {
        Net net = Nets.crowd(3);
        net.request(0);
        net.request(1);
        Check.same("an idle and a waiting one", 2, net.pass(1));
        Check.same("a waiting one", 1, net.minutesReceived(1));
        Check.same("an idle one", 1, net.minutesReceived(2));
        Check.same("not the speaking one", 0, net.minutesReceived(0));
        Check.same("a waiting one does not speak", 0, net.minutesSpoken(1));
    }

    private static void stationsThatDoNotExist() {
        Net seven = Nets.line(7);
        Check.refuses("request", INDEX, seven, () -> seven.request(7));
        Check.refuses("release", INDEX, seven, () -> seven.release(7));
        Check.refuses("cancel", INDEX, seven, () -> seven.cancel(7));
        Net net = Nets.line(8);
        Check.same("the last one can be cancelled", 6, net.cancel(7));
        Check.same("the last one can request", 7, net.request(7));
        Check.same("the first one can be released", 0, net.release(0));
        Check.same("the first one can request", 7, net.request(0));
        Check.same("the first one can be cancelled", 6, net.cancel(0));
        for (int outside : new int[] {-1, 8, Integer.MIN_VALUE, Integer.MAX_VALUE}) {
            Check.refuses("request", INDEX, net, () -> net.request(outside));
            Check.refuses("release", INDEX, net, () -> net.release(outside));
            Check.refuses("cancel", INDEX, net, () -> net.cancel(outside));
        }
    }
}

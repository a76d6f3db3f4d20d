import java.util.NoSuchElementException;

/** The edges of promises 1 to 5: the empty net, the full net, and the ranges of what stations have. */
public final class StationEdgesTest {
    private static final Class<?> ARGUMENT = IllegalArgumentException.class;
    private static final Class<?> ARITHMETIC = ArithmeticException.class;
    private static final Class<?> ELEMENT = NoSuchElementException.class;
    private static final Class<?> INDEX = IndexOutOfBoundsException.class;
    private static final Class<?> STATE = IllegalStateException.class;
    private static final Class<?> TAKEN = UnsupportedOperationException.class;

    public static void main(String[] args) {
        emptyNetTells();
        emptyNetRefuses();
        emptyNetChanges();
        atMostEightStations();
        numbersAfterUndo();
        letters();
        digits();
        sameCallSign();
        coordinates();
        powers();
        channels();
        idleAtFirst();
        moveToTheEdges();
        moveAnswers();
        moveOfEveryMode();
        setPowerEdges();
        tuneEdges();
        tuneIdleAlone();
        Check.end();
    }

    /** "Creates a net without stations." */
    private static void emptyNetTells() {
        Net net = new Net();
        Check.tells("stations", 0, net, net::stations);
        Check.tells("jams", 0, net, net::jams);
        Check.tells("jamsByChannels", 0, net, net::jamsByChannels);
        Check.tells("logLength", 0, net, net::logLength);
        Check.tells("time", 0, net, net::time);
        Check.tells("turnLimit", 10, net, net::turnLimit);
        Check.tells("isConsistent", true, net, net::isConsistent);
        for (int i = 0; i < 10; i++) {
            int channel = i;
            Check.tells("lineLength", 0, net, () -> net.lineLength(channel));
            Check.refuses("speaker", ELEMENT, net, () -> net.speaker(channel));
            Check.refuses("waiting", ELEMENT, net, () -> net.waiting(channel, 1));
            Check.tells("writeChannel", 0, net, () -> net.writeChannel(channel));
        }
    }

    private static void emptyNetRefuses() {
        Net net = new Net();
        Check.refuses("move", INDEX, net, () -> net.move(0, 0, 0));
        Check.refuses("setPower", INDEX, net, () -> net.setPower(0, 1));
        Check.refuses("tune", INDEX, net, () -> net.tune(0, 0));
        Check.refuses("request", INDEX, net, () -> net.request(0));
        Check.refuses("release", INDEX, net, () -> net.release(0));
        Check.refuses("cancel", INDEX, net, () -> net.cancel(0));
        Check.refuses("find", ELEMENT, net, () -> net.find('A', 0));
        Check.refuses("letter", INDEX, net, () -> net.letter(0));
        Check.refuses("digit", INDEX, net, () -> net.digit(0));
        Check.refuses("channel", INDEX, net, () -> net.channel(0));
        Check.refuses("power", INDEX, net, () -> net.power(0));
        Check.refuses("isSpeaking", INDEX, net, () -> net.isSpeaking(0));
        Check.refuses("isWaiting", INDEX, net, () -> net.isWaiting(0));
        Check.refuses("minutesSpoken", INDEX, net, () -> net.minutesSpoken(0));
        Check.refuses("minutesReceived", INDEX, net, () -> net.minutesReceived(0));
        Check.refuses("stationByMinutes", ELEMENT, net, () -> net.stationByMinutes(0));
        Check.refuses("minutesUntilTurn", INDEX, net, () -> net.minutesUntilTurn(0));
        Check.refuses("by simulation", INDEX, net, () -> net.minutesUntilTurnBySimulation(0));
        Check.refuses("canHear", INDEX, net, () -> net.canHear(0, 0));
        Check.refuses("isJammed", INDEX, net, () -> net.isJammed(0));
        Check.refuses("hops", INDEX, net, () -> net.hops(0, 0));
        Check.refuses("hopsBySets", INDEX, net, () -> net.hopsBySets(0, 0));
        Check.refuses("reachable", INDEX, net, () -> net.reachable(0));
        Check.refuses("logStation", INDEX, net, () -> net.logStation(0));
        Check.refuses("logBegin", INDEX, net, () -> net.logBegin(0));
        Check.refuses("logMinutes", INDEX, net, () -> net.logMinutes(0));
        Check.refuses("meanPower", ARITHMETIC, net, net::meanPower);
        Check.refuses("airtime", ARITHMETIC, net, net::airtime);
        Check.refuses("writeStation", INDEX, net, () -> net.writeStation(0));
        Check.refuses("charAt", INDEX, net, () -> net.charAt(0));
        Check.refuses("errorPosition", ELEMENT, net, net::errorPosition);
        Check.refuses("failedCommand", ELEMENT, net, net::failedCommand);
        Check.refuses("undo", STATE, net, net::undo);
        Check.refuses("restore", STATE, net, net::restore);
    }

    private static void emptyNetChanges() {
        Check.refusesText(new Net(), "", 0);
        Check.same("setTurnLimit", 10, new Net().setTurnLimit(10));
        Check.same("pass", 0, new Net().pass(60));
        Check.same("save", 0, new Net().save());
        Check.same("type", 1, new Net().type(';'));
        Check.same("addStation", 0, new Net().addStation('A', 0, 0, 0, 1, 0));
    }

    /** "There are at most 8 stations, numbered from 0 in the order in which they were added." */
    private static void atMostEightStations() {
        Net net = new Net();
        for (int i = 0; i < 8; i++) {
            int number = i;
            Check.same("stations before", i, net.stations());
            Check.refuses("not there yet", INDEX, net, () -> net.letter(number));
            Check.same("number", i, net.addStation((char) ('Z' - i), 9 - i, i, 10 + i, 20 + i, i));
            Check.same("stations afterwards", i + 1, net.stations());
            Check.refuses("not there yet", INDEX, net, () -> net.letter(number + 1));
            Check.refuses("before the first", INDEX, net, () -> net.letter(-1));
        }
        for (int i = 0; i < 8; i++) {
            Check.same("letter", (char) ('Z' - i), net.letter(i));
            Check.same("power", 20 + i, net.power(i));
        }
        Check.refuses("the ninth", STATE, net, () -> net.addStation('A', 9, 0, 0, 1, 0));
        Check.same("stations", 8, net.stations());
    }

    private static void numbersAfterUndo() {
        Net net = Nets.crowd(8);
        net.undo();
        Check.same("seven", 7, net.stations());
        Check.refuses("the eighth is gone", INDEX, net, () -> net.power(7));
        Check.refuses("its call sign too", ELEMENT, net, () -> net.find('A', 7));
        Check.same("the place is free, and the call sign", 7, net.addStation('A', 7, 1, 2, 3, 4));
        Check.refuses("full again", STATE, net, () -> net.addStation('B', 0, 0, 0, 1, 0));
        net.writeStation(7);
        Check.same("line", "A7@1,2#4", net.output());
    }

    /** "a capital letter from A to Z" */
    private static void letters() {
        for (char letter = 'A'; letter <= 'Z'; letter++) {
            Net net = new Net();
            Check.same("letter " + letter, 0, net.addStation(letter, 5, 0, 0, 1, 0));
            Check.same("letter", letter, net.letter(0));
            Check.same("find", 0, net.find(letter, 5));
        }
        Net net = Nets.crowd(1);
        for (char letter : new char[] {'A' - 1, 'Z' + 1, 'a', 'z', '0', 0, 0xFFFF, 'A' + 256, 0xFF21}) {
            Check.refuses("letter " + (int) letter, ARGUMENT, net,
                    () -> net.addStation(letter, 5, 0, 0, 1, 0));
        }
    }

    /** "a digit from 0 to 9" */
    private static void digits() {
        for (int digit = 0; digit <= 9; digit++) {
            Net net = new Net();
            Check.same("digit " + digit, 0, net.addStation('Q', digit, 0, 0, 1, 0));
            Check.same("digit", digit, net.digit(0));
            Check.same("find", 0, net.find('Q', digit));
        }
        Net net = Nets.crowd(1);
        for (int digit : new int[] {-1, 10, '0', '9', Integer.MIN_VALUE, Integer.MAX_VALUE}) {
            Check.refuses("digit " + digit, ARGUMENT, net, () -> net.addStation('Q', digit, 0, 0, 1, 0));
        }
    }

    /** "no two stations have the same call sign" */
    private static void sameCallSign() {
        Net net = new Net();
        net.addStation('B', 1, 0, 0, 1, 0);
        net.addStation('C', 2, 1, 1, 2, 1);
        net.addStation('D', 3, 2, 2, 3, 2);
        Check.refuses("of the first", TAKEN, net, () -> net.addStation('B', 1, 9, 9, 9, 9));
        Check.refuses("of the second", TAKEN, net, () -> net.addStation('C', 2, 9, 9, 9, 9));
        Check.refuses("of the last", TAKEN, net, () -> net.addStation('D', 3, 9, 9, 9, 9));
        Check.same("a letter and a digit that are not together", 3, net.addStation('B', 2, 0, 0, 1, 0));
        Check.same("the next digit", 4, net.addStation('D', 4, 0, 0, 1, 0));
        Check.same("the next letter", 5, net.addStation('E', 3, 0, 0, 1, 0));
        Check.refuses("of the new one", TAKEN, net, () -> net.addStation('B', 2, 9, 9, 9, 9));
    }

    /** "the coordinates x and y, each from 0 to 99" */
    private static void coordinates() {
        int[][] corners = {{0, 0}, {0, 99}, {99, 0}, {99, 99}};
        for (int[] corner : corners) {
            Net net = new Net();
            Check.same("corner", 0, net.addStation('A', 0, corner[0], corner[1], 1, 0));
            net.writeStation(0);
            Check.same("line", "A0@" + corner[0] + "," + corner[1] + "#0", net.output());
        }
        Net net = Nets.crowd(1);
        for (int outside : new int[] {-1, 100, Integer.MIN_VALUE, Integer.MAX_VALUE}) {
            Check.refuses("x " + outside, ARGUMENT, net, () -> net.addStation('B', 0, outside, 5, 1, 0));
            Check.refuses("y " + outside, ARGUMENT, net, () -> net.addStation('B', 0, 5, outside, 1, 0));
            Check.refuses("move x " + outside, ARGUMENT, net, () -> net.move(0, outside, 5));
            Check.refuses("move y " + outside, ARGUMENT, net, () -> net.move(0, 5, outside));
        }
    }

    /** "a power from 1 to 99" */
    private static void powers() {
        for (int power : new int[] {1, 2, 98, 99}) {
            Net net = new Net();
            Check.same("power " + power, 0, net.addStation('A', 0, 0, 0, power, 0));
            Check.same("power", power, net.power(0));
        }
        Net net = Nets.crowd(1);
        for (int outside : new int[] {0, -1, 100, Integer.MIN_VALUE, Integer.MAX_VALUE}) {
            Check.refuses("power " + outside, ARGUMENT, net,
                    () -> net.addStation('B', 0, 0, 0, outside, 0));
            Check.refuses("setPower " + outside, ARGUMENT, net, () -> net.setPower(0, outside));
        }
    }

    /** "a channel from 0 to 9" */
    private static void channels() {
        for (int channel = 0; channel <= 9; channel++) {
            Net net = new Net();
            Check.same("channel " + channel, 0, net.addStation('A', 0, 0, 0, 1, channel));
            Check.same("channel", channel, net.channel(0));
        }
        Net net = Nets.crowd(1);
        for (int outside : new int[] {-1, 10, Integer.MIN_VALUE, Integer.MAX_VALUE}) {
            Check.refuses("channel " + outside, ARGUMENT, net,
                    () -> net.addStation('B', 0, 0, 0, 1, outside));
            Check.refuses("tune " + outside, ARGUMENT, net, () -> net.tune(0, outside));
        }
    }

    /** "it is idle at first", whatever station had this number before the changes were undone */
    private static void idleAtFirst() {
        Net net = Nets.crowd(2);
        net.addStation('B', 0, 50, 50, 1, 4);
        net.request(2);
        net.pass(3);
        for (int i = 0; i < 3; i++) {
            net.undo();
        }
        net.request(0);
        Check.same("number", 2, net.addStation('C', 0, 50, 50, 1, 3));
        Check.same("isSpeaking", false, net.isSpeaking(2));
        Check.same("isWaiting", false, net.isWaiting(2));
        Check.same("minutesSpoken", 0, net.minutesSpoken(2));
        Check.same("minutesReceived", 0, net.minutesReceived(2));
        Check.same("an idle station can request", 1, net.request(2));
    }

    private static void moveToTheEdges() {
        Net net = Nets.crowd(8);
        int[][] places = {{0, 0}, {0, 99}, {99, 0}, {99, 99}};
        for (int[] place : places) {
            Check.same("the last station", 0, net.move(7, place[0], place[1]));
            net.writeStation(7);
            Check.same("line", "A7@" + place[0] + "," + place[1] + "#3", net.output());
        }
        Check.same("the first station", 0, net.move(0, 0, 0));
        for (int outside : new int[] {-1, 8, Integer.MIN_VALUE, Integer.MAX_VALUE}) {
            Check.refuses("station " + outside, INDEX, net, () -> net.move(outside, 0, 0));
        }
    }

    /** "Returns the number of stations that can hear it afterwards.": from 0 to 7 */
    private static void moveAnswers() {
        Net net = Nets.crowd(8);
        Check.same("all others, on the spot", 7, net.move(0, 50, 50));
        Check.same("all others, at the full range", 7, net.move(0, 50, 49));
        Check.same("nobody, a step too far", 0, net.move(0, 50, 48));
        Check.same("nobody, a step too far across", 0, net.move(0, 49, 49));
        net.setPower(0, 99);
        Check.same("all others, by the power", 7, net.move(0, 0, 0));
        Check.same("afterwards alone counts", 6, net.move(7, 50, 51));
        net.tune(6, 4);
        Check.same("without another channel", 6, net.move(0, 0, 0));
        Check.same("alone on its channel", 0, net.move(6, 50, 50));
        Check.same("alone in the net", 0, Nets.crowd(1).move(0, 50, 50));
    }

    private static void moveOfEveryMode() {
        Net net = Nets.line(3);
        Check.same("a speaking one", 0, net.move(0, 9, 9));
        Check.same("a waiting one", 0, net.move(1, 9, 11));
        Check.same("it still speaks", 0, net.speaker(3));
        Check.same("it still waits", 1, net.waiting(3, 1));
        Check.same("into the range of the waiting one", 1, net.move(1, 9, 10));
    }

    /** "the new power, 1 to 99", "Returns the previous power." */
    private static void setPowerEdges() {
        Net net = Nets.crowd(8);
        Check.same("the smallest, which it had", 1, net.setPower(0, 1));
        Check.same("the largest", 1, net.setPower(0, 99));
        Check.same("the largest, which it had", 99, net.setPower(0, 99));
        Check.same("back to the smallest", 99, net.setPower(0, 1));
        Check.same("power", 1, net.power(0));
        Check.same("of the last station", 1, net.setPower(7, 2));
        Check.same("power", 2, net.power(7));
        for (int outside : new int[] {-1, 8, Integer.MIN_VALUE, Integer.MAX_VALUE}) {
            Check.refuses("station " + outside, INDEX, net, () -> net.setPower(outside, 1));
        }
        Net line = Nets.line(2);
        Check.same("of a speaking one", 1, line.setPower(0, 5));
        Check.same("of a waiting one", 1, line.setPower(1, 6));
        Check.same("isSpeaking", true, line.isSpeaking(0));
        Check.same("isWaiting", true, line.isWaiting(1));
    }

    /** "the new channel, 0 to 9", "Returns the previous channel." */
    private static void tuneEdges() {
        Net net = Nets.crowd(8);
        Check.same("to the smallest", 3, net.tune(0, 0));
        Check.same("where it was", 0, net.tune(0, 0));
        Check.same("to the largest", 0, net.tune(0, 9));
        Check.same("where it was", 9, net.tune(0, 9));
        Check.same("channel", 9, net.channel(0));
        Check.same("of the last station", 3, net.tune(7, 9));
        Check.same("channel", 9, net.channel(7));
        for (int outside : new int[] {-1, 8, Integer.MIN_VALUE, Integer.MAX_VALUE}) {
            Check.refuses("station " + outside, INDEX, net, () -> net.tune(outside, 0));
        }
    }

    /** "Tunes an idle station": what has spoken or waited is idle again. */
    private static void tuneIdleAlone() {
        Net net = Nets.line(3);
        Check.refuses("speaking", STATE, net, () -> net.tune(0, 0));
        Check.refuses("waiting first", STATE, net, () -> net.tune(1, 0));
        Check.refuses("waiting last", STATE, net, () -> net.tune(2, 0));
        Check.refuses("to its own channel", STATE, net, () -> net.tune(0, 3));
        Check.refuses("to its own channel", STATE, net, () -> net.tune(2, 3));
        net.cancel(2);
        Check.same("after waiting", 3, net.tune(2, 0));
        net.release(0);
        Check.same("after speaking", 3, net.tune(0, 9));
        Check.refuses("which speaks now", STATE, net, () -> net.tune(1, 0));
        net.pass(10);
        Check.same("after the limit", 3, net.tune(1, 1));
    }
}

/** Promises 1 to 5: a new object, addStation, move, setPower, tune. */
public final class StationsTest {
    private static final Class<?> ARGUMENT = IllegalArgumentException.class;
    private static final Class<?> INDEX = IndexOutOfBoundsException.class;
    private static final Class<?> STATE = IllegalStateException.class;
    private static final Class<?> TAKEN = UnsupportedOperationException.class;

    public static void main(String[] args) {
        newObject();
        addStation();
        addStationOrderOfExceptions();
        move();
        setPower();
        tune();
        Check.end();
    }

    private static void newObject() {
        Net net = new Net();
        Check.same("stations", 0, net.stations());
        Check.same("time", 0, net.time());
        Check.same("turnLimit", 10, net.turnLimit());
        Check.same("logLength", 0, net.logLength());
        Check.same("jams", 0, net.jams());
        Check.same("isConsistent", true, net.isConsistent());
        Check.same("output", "", net.output());
        for (int i = 0; i < 10; i++) {
            Check.same("lineLength", 0, net.lineLength(i));
        }
        Net other = new Net();
        other.addStation('A', 0, 0, 0, 1, 0);
        Check.same("stations of the first of two nets", 0, net.stations());
    }

    private static void addStation() {
        Net net = new Net();
        Check.same("first", 0, net.addStation('A', 0, 0, 0, 1, 0));
        Check.same("second", 1, net.addStation('Z', 9, 99, 99, 99, 9));
        Check.same("same letter", 2, net.addStation('A', 9, 1, 98, 50, 5));
        Check.same("same digit and place", 3, net.addStation('Z', 0, 0, 0, 1, 0));
        Check.same("stations", 4, net.stations());
        Check.same("isSpeaking", false, net.isSpeaking(1));
        Check.same("isWaiting", false, net.isWaiting(1));
        net.writeStation(1);
        Check.same("line of 1", "Z9@99,99#9", net.output());
        net.writeStation(2);
        Check.same("line of 2", "A9@1,98#5", net.output());
        Check.same("power", 50, net.power(2));
        for (int i = 4; i < 8; i++) {
            Check.same("number", i, net.addStation('B', i, 0, 0, 1, 0));
        }
        Check.refuses("ninth", STATE, net, () -> net.addStation('C', 0, 0, 0, 1, 0));
    }

    private static void addStationOrderOfExceptions() {
        Net net = new Net();
        net.addStation('A', 0, 0, 0, 1, 0);
        wrongArguments(net);
        Check.refuses("taken", TAKEN, net, () -> net.addStation('A', 0, 5, 5, 5, 5));
        for (int i = 1; i < 8; i++) {
            net.addStation('A', i, 0, 0, 1, 0);
        }
        wrongArguments(net);
        Check.refuses("taken and full", TAKEN, net, () -> net.addStation('A', 0, 5, 5, 5, 5));
        Check.refuses("full", STATE, net, () -> net.addStation('B', 0, 5, 5, 5, 5));
    }

    private static void wrongArguments(Net net) {
        for (char letter : new char[] {'@', '[', 'a', 'z', '0', 0, 0xC4, 0xFF21, 0xFFFF, 'A' + 256}) {
            Check.refuses("letter " + (int) letter, ARGUMENT, net,
                    () -> net.addStation(letter, 0, 0, 0, 1, 0));
        }
        for (int outside : new int[] {-1, 10, Integer.MIN_VALUE, Integer.MAX_VALUE}) {
            Check.refuses("digit", ARGUMENT, net, () -> net.addStation('A', outside, 0, 0, 1, 0));
            Check.refuses("channel", ARGUMENT, net, () -> net.addStation('A', 0, 0, 0, 1, outside));
        }
        for (int outside : new int[] {-1, 100, Integer.MIN_VALUE, Integer.MAX_VALUE}) {
            Check.refuses("x", ARGUMENT, net, () -> net.addStation('A', 0, outside, 0, 1, 0));
            Check.refuses("y", ARGUMENT, net, () -> net.addStation('A', 0, 0, outside, 1, 0));
            Check.refuses("power", ARGUMENT, net, () -> net.addStation('A', 0, 0, 0, outside, 0));
        }
        Check.refuses("power 0", ARGUMENT, net, () -> net.addStation('A', 0, 0, 0, 0, 0));
    }

    private static void move() {
        Net net = new Net();
        net.addStation('A', 0, 50, 50, 5, 3);
        net.addStation('B', 0, 50, 50, 1, 3);
        net.addStation('C', 0, 53, 54, 99, 3);
        net.addStation('D', 0, 50, 50, 99, 4);
        Check.same("both hear it, the last one at its full range", 2, net.move(0, 50, 50));
        Check.same("the first alone, at its full range", 1, net.move(1, 49, 50));
        Check.same("the first alone", 1, net.move(1, 50, 50));
        Check.same("a step too far for one", 1, net.move(0, 49, 50));
        Check.same("too far for all", 0, net.move(0, 0, 99));
        net.writeStation(0);
        Check.same("where it is", "A0@0,99#3", net.output());
        Check.same("what it hears does not count", 0, net.move(1, 99, 0));
        Check.same("into the range", 1, net.move(0, 53, 54));
        net.request(0);
        Check.same("a speaking station", 1, net.move(0, 53, 53));
        Check.same("it still speaks", true, net.isSpeaking(0));
        for (int outside : new int[] {-1, 4, 8, Integer.MIN_VALUE, Integer.MAX_VALUE}) {
            Check.refuses("station", INDEX, net, () -> net.move(outside, 0, 0));
            Check.refuses("station and place", INDEX, net, () -> net.move(outside, -1, 100));
        }
        for (int outside : new int[] {-1, 100, Integer.MIN_VALUE, Integer.MAX_VALUE}) {
            Check.refuses("x", ARGUMENT, net, () -> net.move(0, outside, 0));
            Check.refuses("y", ARGUMENT, net, () -> net.move(0, 0, outside));
        }
    }

    private static void setPower() {
        Net net = new Net();
        net.addStation('A', 0, 0, 0, 7, 3);
        net.addStation('B', 0, 0, 10, 1, 3);
        Check.same("first", 7, net.setPower(0, 10));
        Check.same("heard", true, net.canHear(1, 0));
        Check.same("second", 10, net.setPower(0, 9));
        Check.same("not heard", false, net.canHear(1, 0));
        Check.same("largest", 9, net.setPower(0, 99));
        Check.same("smallest", 99, net.setPower(0, 1));
        Check.same("same", 1, net.setPower(0, 1));
        Check.same("the other one", 1, net.power(1));
        for (int outside : new int[] {-1, 2, 8, Integer.MIN_VALUE, Integer.MAX_VALUE}) {
            Check.refuses("station", INDEX, net, () -> net.setPower(outside, 5));
            Check.refuses("station and power", INDEX, net, () -> net.setPower(outside, 0));
        }
        for (int outside : new int[] {-1, 0, 100, Integer.MIN_VALUE, Integer.MAX_VALUE}) {
            Check.refuses("power", ARGUMENT, net, () -> net.setPower(0, outside));
        }
    }

    private static void tune() {
        Net net = new Net();
        net.addStation('A', 0, 0, 0, 7, 3);
        net.addStation('B', 0, 0, 0, 7, 3);
        Check.same("down", 3, net.tune(0, 0));
        Check.same("up", 0, net.tune(0, 9));
        Check.same("same", 9, net.tune(0, 9));
        Check.same("channel", 9, net.channel(0));
        Check.same("back", 9, net.tune(0, 3));
        net.request(0);
        net.request(1);
        Check.refuses("speaking", STATE, net, () -> net.tune(0, 4));
        Check.refuses("speaking, its own channel", STATE, net, () -> net.tune(0, 3));
        Check.refuses("waiting", STATE, net, () -> net.tune(1, 4));
        for (int outside : new int[] {-1, 10, Integer.MIN_VALUE, Integer.MAX_VALUE}) {
            Check.refuses("channel, speaking", ARGUMENT, net, () -> net.tune(0, outside));
            Check.refuses("channel, waiting", ARGUMENT, net, () -> net.tune(1, outside));
        }
        for (int outside : new int[] {-1, 2, Integer.MIN_VALUE, Integer.MAX_VALUE}) {
            Check.refuses("station", INDEX, net, () -> net.tune(outside, 3));
            Check.refuses("station and channel", INDEX, net, () -> net.tune(outside, 10));
        }
        net.cancel(1);
        net.release(0);
        Check.same("idle again", 3, net.tune(1, 4));
        Check.same("idle again", 3, net.tune(0, 2));
    }
}

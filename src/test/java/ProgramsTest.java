import java.util.NoSuchElementException;

/** Promises 46 to 49: type, run, errorPosition, failedCommand. */
public final class ProgramsTest {
    private static final Class<?> ARGUMENT = IllegalArgumentException.class;
    private static final Class<?> ELEMENT = NoSuchElementException.class;
    private static final Class<?> STATE = IllegalStateException.class;

    public static void main(String[] args) {
        type();
        commands();
        everyValueAtItsPlace();
        numbers();
        errorPositions();
        failedCommands();
        recordsStay();
        fullBuffers();
        Check.end();
    }

    private static void type() {
        Net net = new Net();
        for (int i = 1; i <= 60; i++) {
            Check.same("type", i, net.type((char) (i * 1091)));
        }
        Check.refuses("full", STATE, net, () -> net.type('w'));
        Check.refuses("not a program", STATE, net, () -> net.type(';'));
        Check.refusesText(net, "", 0);
        Check.same("empty afterwards", 1, net.type('x'));
        Check.refusesText(net, "", 0);
        Check.same("the state is no other", 0, net.stations());
    }

    private static void commands() {
        Net net = new Net();
        Check.same("stations", 2, Check.run(net, "station K7 10,4 20 3;station A0 10,5 99 3"));
        net.writeStation(0);
        Check.same("line", "K7@10,4#3", net.output());
        Check.same("power", 20, net.power(0));
        Check.same("calls", 2, Check.run(net, "call 1;call 0"));
        Check.same("isSpeaking", true, net.isSpeaking(1));
        Check.same("isWaiting", true, net.isWaiting(0));
        Check.same("wait", 1, Check.run(net, "wait"));
        Check.same("time", 1, net.time());
        Check.same("waits", 3, Check.run(net, "wait 5;wait;wait 1"));
        Check.same("time", 8, net.time());
        Check.same("received", 8, net.minutesReceived(0));
        Check.same("cancel", 1, Check.run(net, "cancel 0"));
        Check.same("isWaiting", false, net.isWaiting(0));
        Check.same("over", 1, Check.run(net, "over 1"));
        Check.same("logMinutes", 8, net.logMinutes(0));
        Check.same("limit", 1, Check.run(net, "limit 60"));
        Check.same("turnLimit", 60, net.turnLimit());
        Check.same("others", 3, Check.run(net, "move 0 99,0;power 1=1;tune 0=9"));
        net.writeStation(0);
        Check.same("line", "K7@99,0#9", net.output());
        Check.same("power", 1, net.power(1));
        Check.same("channel", 9, net.channel(0));
        Check.same("in order", 3, Check.run(net, "call 0;over 0;tune 0=3"));
        Check.same("logLength", 2, net.logLength());
    }

    /** Each command changes what it names, and nothing else. */
    private static void everyValueAtItsPlace() {
        Net net = new Net();
        Net twin = new Net();
        Check.run(net, "station Q8 12,34 56 7;station B3 98,76 54 7");
        twin.addStation('Q', 8, 12, 34, 56, 7);
        twin.addStation('B', 3, 98, 76, 54, 7);
        alike(net, twin);
        Check.run(net, "move 1 23,45");
        twin.move(1, 23, 45);
        alike(net, twin);
        Check.run(net, "power 0=99");
        twin.setPower(0, 99);
        alike(net, twin);
        Check.run(net, "tune 1=6");
        twin.tune(1, 6);
        alike(net, twin);
        Check.run(net, "tune 1=7;call 1;call 0");
        twin.tune(1, 7);
        twin.request(1);
        twin.request(0);
        alike(net, twin);
        Check.run(net, "wait 6");
        twin.pass(6);
        alike(net, twin);
        Check.run(net, "cancel 0");
        twin.cancel(0);
        alike(net, twin);
        Check.run(net, "limit 34");
        twin.setTurnLimit(34);
        alike(net, twin);
        Check.run(net, "over 1");
        twin.release(1);
        alike(net, twin);
        Check.run(net, "wait");
        twin.pass(1);
        alike(net, twin);

        Net fresh = new Net();
        fresh.addStation('A', 0, 0, 0, 1, 0);
        Check.same("the first command of all", 1, Check.run(fresh, "power 0=5"));
        Check.same("power", 5, fresh.power(0));
    }

    private static void alike(Net net, Net twin) {
        Check.same("state", twin.state(), net.state());
        for (int i = 0; i < net.stations(); i++) {
            net.writeStation(i);
            twin.writeStation(i);
            Check.same("line", twin.output(), net.output());
        }
    }

    private static void numbers() {
        Net net = new Net();
        Check.same("zeros in front", 1, Check.run(net, "station Z0 00,09 01 0"));
        net.writeStation(0);
        Check.same("line", "Z0@0,9#0", net.output());
        Check.same("power", 1, net.power(0));
        Check.same("zeros in front", 2, Check.run(net, "limit 07;wait 03"));
        Check.same("turnLimit", 7, net.turnLimit());
        Check.same("time", 3, net.time());
    }

    private static void errorPositions() {
        String[] beginnings = {"", "s", "station", "station ", "station K", "station K7",
            "station K7 ", "station K7 1", "station K7 10", "station K7 10,", "station K7 10,4",
            "station K7 10,4 ", "station K7 10,4 20", "station K7 10,4 20 ", "m", "move 0", "move 0 1",
            "move 0 12", "move 0 12,", "p", "power 0", "power 0=", "t", "tune 0=", "c", "ca", "cal",
            "call", "call ", "can", "cancel ", "o", "over ", "l", "limit ", "w", "wai", "wait ",
            "wait;", "wait 5;", "call 0;", "call 0;c"};
        for (String beginning : beginnings) {
            errorIs(beginning, beginning.length());
            errorIs(beginning + "~", beginning.length());
            errorIs(beginning + "~wait", beginning.length());
        }
        errorIs("station K7 104 20 3", 13);
        errorIs("station k7", 8);
        errorIs("station KK", 9);
        errorIs("station K7 10,4 20 33", 20);
        errorIs("cax", 2);
        errorIs("cance 0", 5);
        errorIs("call 12", 6);
        errorIs("over a", 5);
        errorIs("limit 123", 8);
        errorIs("wait5", 4);
        errorIs("wait x", 5);
        errorIs("wait  5", 5);
        errorIs("wait 5 ", 6);
        errorIs("wait 123", 7);
        errorIs("wait;;wait", 5);
        errorIs(";", 0);
        errorIs(" wait", 0);
        errorIs("Wait", 0);
        errorIs("power 0 5", 7);
        errorIs("move 0,1,2", 6);
        errorIs("limit -1", 6);
        errorIs("wait" + (char) (';' + 256), 4);
        errorIs("call " + (char) 0x0661, 5);
    }

    private static void errorIs(String text, int position) {
        Check.refusesText(new Net(), text, position);
    }

    private static void failedCommands() {
        failsOnNew("call 0", 0);
        failsOnNew("station A0 1,1 1 1;call 0;wait 3;over 0;over 0", 4);
        failsOnNew("station A0 1,1 1 1;station A0 2,2 2 2", 1);
        failsOnNew("station A0 1,1 0 1", 0);
        failsOnNew("wait;wait 0", 1);
        failsOnNew("wait 61", 0);
        failsOnNew("limit 60;limit 61", 1);
        failsOnNew("limit 0", 0);
        failsOnTwo("wait;move 2 0,0", 1);
        failsOnTwo("move 9 0,0", 0);
        failsOnTwo("power 0=0", 0);
        failsOnTwo("power 8=5", 0);
        failsOnTwo("tune 2=0", 0);
        failsOnTwo("call 0;tune 0=1", 1);
        failsOnTwo("call 0;call 0", 1);
        failsOnTwo("call 0;call 1;call 1", 2);
        failsOnTwo("call 0;call 1;over 1", 2);
        failsOnTwo("call 0;call 1;cancel 1;cancel 1", 3);
        failsOnTwo("call 0;cancel 0", 1);
        failsOnTwo("cancel 5", 0);
        Net net = new Net();
        for (int i = 0; i < 8; i++) {
            net.addStation('C', i, 0, 0, 1, 0);
        }
        Check.failsAt(net, "wait;wait;station D0 0,0 1 0", 2);
        Check.refusesText(net, "call 0;call 0;x", 14);
    }

    private static void failsOnNew(String text, int command) {
        Check.failsAt(new Net(), text, command);
    }

    private static void failsOnTwo(String text, int command) {
        Net net = new Net();
        Check.run(net, "station A0 1,1 1 1;station B0 1,1 1 1");
        Check.failsAt(net, text, command);
    }

    private static void recordsStay() {
        Net net = new Net();
        Check.refuses("no text", ELEMENT, net, net::errorPosition);
        Check.refuses("no command", ELEMENT, net, net::failedCommand);
        Check.run(net, "wait");
        Check.refuses("no wrong text", ELEMENT, net, net::errorPosition);
        Check.refuses("no failed command", ELEMENT, net, net::failedCommand);
        failsAtOnly(net, "wait;over 0");
        Check.refuses("no wrong text", ELEMENT, net, net::errorPosition);
        Check.same("failedCommand", 1, net.failedCommand());
        Check.refusesText(net, "wat", 2);
        Check.same("failedCommand", 1, net.failedCommand());
        net.save();
        Check.run(net, "wait");
        net.undo();
        net.restore();
        Check.same("errorPosition", 2, net.errorPosition());
        Check.same("failedCommand", 1, net.failedCommand());
        failsAtOnly(net, "over 0");
        Check.same("errorPosition", 2, net.errorPosition());
        Check.same("the latest one", 0, net.failedCommand());
        Check.refuses("a call that fails is no command", IndexOutOfBoundsException.class, net,
                () -> net.release(3));
        Net other = new Net();
        Check.refusesText(other, "", 0);
        Check.refuses("no failed command", ELEMENT, other, other::failedCommand);
    }

    private static void failsAtOnly(Net net, String text) {
        Check.type(net, text);
        Check.same("run of '" + text + "'", "throws java.lang.UnsupportedOperationException",
                Check.outcome(net::run));
    }

    private static void fullBuffers() {
        String waits = "wait;wait;wait;wait;wait;wait;wait;wait;wait;wait;wait;wait;";
        errorIs(waits, 60);
        Net net = new Net();
        Check.same("twelve", 12, Check.run(net, waits.substring(0, 59)));
        Check.same("time", 12, net.time());
        Check.same("undo", 0, net.undo());
        Check.same("time", 0, net.time());
        String text = "limit 3;limit 4;limit 5;limit 6;limit 7;limit 8;wait 60;wait";
        Check.same("sixty characters", 8, Check.run(net, text));
        Check.same("turnLimit", 8, net.turnLimit());
        Check.same("time", 61, net.time());
        errorIs("limit 3;limit 4;limit 5;limit 6;limit 7;limit 8;limit 60;sta", 60);
    }
}

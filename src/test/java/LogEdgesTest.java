/** The edges of promises 34 to 42: the empty and the full log, the first minute, the empty net. */
public final class LogEdgesTest {
    private static final Class<?> ARITHMETIC = ArithmeticException.class;
    private static final Class<?> INDEX = IndexOutOfBoundsException.class;

    public static void main(String[] args) {
        emptyLog();
        for (int turns = 1; turns <= 34; turns++) {
            latestSixteen(turns);
        }
        oldestIsDropped();
        severalAreDroppedAtOnce();
        fullLogOfTurnsAtTheLimit();
        turnsOfNoMinute();
        turnsOfMostMinutes();
        whateverTheReason();
        whatIsNoEndOfATurn();
        timeBegins();
        turnLimitBegins();
        meanPowerOfNobody();
        meanPowerFromOneToEight();
        airtimeAtTimeZero();
        airtimeFromNoneToAll();
        airtimeIsFloat();
        consistentFromEmptyToFull();
        Check.end();
    }

    private static void entryIs(Net net, int entry, int station, int begin, int minutes) {
        Check.same("logStation", station, net.logStation(entry));
        Check.same("logBegin", begin, net.logBegin(entry));
        Check.same("logMinutes", minutes, net.logMinutes(entry));
    }

    private static void noEntry(Net net, int entry) {
        Check.refuses("logStation " + entry, INDEX, net, () -> net.logStation(entry));
        Check.refuses("logBegin " + entry, INDEX, net, () -> net.logBegin(entry));
        Check.refuses("logMinutes " + entry, INDEX, net, () -> net.logMinutes(entry));
    }

    private static void noOtherEntries(Net net, int length) {
        Check.tells("logLength", length, net, net::logLength);
        for (int outside : new int[] {-1, length, Integer.MIN_VALUE, Integer.MAX_VALUE}) {
            noEntry(net, outside);
        }
    }

    private static void emptyLog() {
        noOtherEntries(new Net(), 0);
        Net speaking = Nets.line(8);
        speaking.pass(9);
        noOtherEntries(speaking, 0);
    }

    /** Turns of stations in turn, the n-th of n minutes, but for every tenth one, which has none. */
    private static Net netOfTurns(int turns) {
        Net net = Nets.crowd(8);
        net.setTurnLimit(60);
        for (int i = 0; i < turns; i++) {
            net.request(i % 8);
            if (i % 10 > 0) {
                net.pass(i);
            }
            net.release(i % 8);
        }
        return net;
    }

    /** "Only the 16 latest entries are kept. The entries .. are numbered from 0 for the oldest one." */
    private static void latestSixteen(int turns) {
        Net net = netOfTurns(turns);
        int length = Math.min(turns, 16);
        int begin = 0;
        for (int i = 0; i < turns; i++) {
            int minutes = i % 10 > 0 ? i : 0;
            int entry = i - (turns - length);
            if (entry >= 0) {
                entryIs(net, entry, i % 8, begin, minutes);
            }
            begin += minutes;
        }
        noOtherEntries(net, length);
    }

    private static void oldestIsDropped() {
        Net net = netOfTurns(16);
        Check.same("full", 16, net.logLength());
        entryIs(net, 0, 0, 0, 0);
        entryIs(net, 15, 7, 95, 15);
        net.request(5);
        Check.same("a turn that lasts is no entry", 16, net.logLength());
        entryIs(net, 0, 0, 0, 0);
        net.release(5);
        Check.same("still full", 16, net.logLength());
        entryIs(net, 0, 1, 0, 1);
        entryIs(net, 14, 7, 95, 15);
        entryIs(net, 15, 5, 110, 0);
        noEntry(net, 16);
    }

    private static void severalAreDroppedAtOnce() {
        Net net = Nets.speakers(8);
        net.pass(10);
        for (int i = 0; i < 4; i++) {
            net.request(i);
            net.release(i);
        }
        for (int i = 0; i < 8; i++) {
            net.request(i);
        }
        Check.same("before", 12, net.logLength());
        net.pass(10);
        Check.same("afterwards", 16, net.logLength());
        for (int i = 0; i < 4; i++) {
            entryIs(net, i, i + 4, 0, 10);
            entryIs(net, i + 4, i, 10, 0);
            entryIs(net, i + 8, i, 10, 10);
            entryIs(net, i + 12, i + 4, 10, 10);
        }
        noOtherEntries(net, 16);
    }

    private static void fullLogOfTurnsAtTheLimit() {
        Net net = Nets.line(8);
        net.setTurnLimit(1);
        net.pass(8);
        for (int i = 0; i < 8; i++) {
            net.request(i);
        }
        net.pass(8);
        Check.same("exactly full", 16, net.logLength());
        entryIs(net, 0, 0, 0, 1);
        entryIs(net, 15, 7, 15, 1);
        net.request(3);
        net.pass(1);
        entryIs(net, 0, 1, 1, 1);
        entryIs(net, 15, 3, 16, 1);
        noOtherEntries(net, 16);
    }

    /** "the number of minutes that it lasted, which can be 0" */
    private static void turnsOfNoMinute() {
        Net net = Nets.line(8);
        net.pass(4);
        for (int i = 0; i < 8; i++) {
            net.release(i);
            entryIs(net, i, i, i == 0 ? 0 : 4, i == 0 ? 4 : 0);
        }
        Check.same("they are entries", 8, net.logLength());
    }

    private static void turnsOfMostMinutes() {
        Net net = Nets.line(2);
        net.setTurnLimit(60);
        net.pass(60);
        net.pass(59);
        net.setTurnLimit(1);
        net.pass(1);
        entryIs(net, 0, 0, 0, 60);
        entryIs(net, 1, 1, 60, 60);
    }

    /** "When a turn ends, for whatever reason, it is added to the log" */
    private static void whateverTheReason() {
        Net net = Nets.line(5);
        net.pass(2);
        net.release(0);
        entryIs(net, 0, 0, 0, 2);
        net.pass(10);
        entryIs(net, 1, 1, 2, 10);
        net.pass(3);
        net.setTurnLimit(2);
        net.pass(1);
        entryIs(net, 2, 2, 12, 4);
        Check.run(net, "wait;over 3");
        entryIs(net, 3, 3, 16, 1);
        Check.run(net, "limit 7;wait 7");
        entryIs(net, 4, 4, 17, 7);
        noOtherEntries(net, 5);
    }

    private static void whatIsNoEndOfATurn() {
        Net net = Nets.line(3);
        net.pass(3);
        net.cancel(2);
        net.setTurnLimit(1);
        net.move(0, 0, 0);
        net.setPower(0, 9);
        net.request(2);
        net.save();
        net.undo();
        net.restore();
        Check.same("logLength", 0, net.logLength());
        Check.same("it still speaks", 3, net.release(0));
    }

    /** "the time, which is initially 0, increases by 1" */
    private static void timeBegins() {
        Net net = new Net();
        Check.tells("initially", 0, net, net::time);
        net.pass(1);
        Check.tells("one minute", 1, net, net::time);
        net.pass(60);
        Check.tells("the most of one call", 61, net, net::time);
        net.undo();
        Check.tells("undone", 1, net, net::time);
    }

    private static void turnLimitBegins() {
        Net net = new Net();
        Check.tells("initially", 10, net, net::turnLimit);
        net.setTurnLimit(1);
        Check.tells("smallest", 1, net, net::turnLimit);
        net.setTurnLimit(60);
        Check.tells("largest", 60, net, net::turnLimit);
        net.undo();
        Check.tells("undone", 1, net, net::turnLimit);
    }

    /** "Throws ArithmeticException if there are no stations" */
    private static void meanPowerOfNobody() {
        Net net = new Net();
        net.pass(5);
        Check.refuses("no station", ARITHMETIC, net, net::meanPower);
        net.addStation('A', 0, 0, 0, 1, 0);
        Check.tells("one station", 1.0, net, net::meanPower);
        net.undo();
        Check.refuses("no station again", ARITHMETIC, net, net::meanPower);
    }

    private static void meanPowerFromOneToEight() {
        Net net = new Net();
        int sum = 0;
        for (int i = 1; i <= 8; i++) {
            int power = i == 1 ? 99 : 7 * i;
            sum += power;
            net.addStation('A', i, 0, 0, power, 0);
            Check.same("mean of " + i, (double) sum / (double) i, net.meanPower());
        }
        for (int i = 0; i < 8; i++) {
            net.setPower(i, 99);
        }
        Check.same("largest", 99.0, net.meanPower());
        for (int i = 0; i < 8; i++) {
            net.setPower(i, 1);
        }
        Check.same("smallest", 1.0, net.meanPower());
    }

    /** "Throws ArithmeticException if the time is 0" */
    private static void airtimeAtTimeZero() {
        Net empty = new Net();
        Check.refuses("an empty net", ARITHMETIC, empty, empty::airtime);
        Net net = Nets.line(8);
        Check.refuses("stations that speak", ARITHMETIC, net, net::airtime);
        net.pass(1);
        Check.tells("after a minute", 1.0f, net, net::airtime);
        net.undo();
        Check.refuses("undone", ARITHMETIC, net, net::airtime);
    }

    private static void airtimeFromNoneToAll() {
        Net empty = new Net();
        empty.pass(1);
        Check.tells("no stations", 0.0f, empty, empty::airtime);
        Net silent = Nets.crowd(8);
        silent.pass(60);
        Check.tells("nobody speaks", 0.0f, silent, silent::airtime);
        Net net = Nets.speakers(8);
        net.pass(10);
        Check.tells("all speak", 8.0f, net, net::airtime);
        net.pass(1);
        Check.tells("nobody any more", 80.0f / 11.0f, net, net::airtime);
    }

    /** "both converted to float" */
    private static void airtimeIsFloat() {
        Net net = Nets.speakers(3);
        net.setTurnLimit(60);
        net.pass(5);
        net.release(0);
        net.pass(6);
        Check.same("airtime", 27.0f / 11.0f, net.airtime());
        net.release(1);
        net.release(2);
        net.pass(30);
        Check.same("airtime", 27.0f / 41.0f, net.airtime());
    }

    private static void consistentFromEmptyToFull() {
        Net net = new Net();
        Check.tells("no station", true, net, net::isConsistent);
        for (int i = 0; i < 8; i++) {
            net.addStation('A', i, 10 * i, 0, 10 + i, i / 5);
            Check.tells("idle", true, net, net::isConsistent);
            net.request(i);
            Check.tells("speaking or waiting", true, net, net::isConsistent);
        }
        net.setTurnLimit(1);
        Check.tells("limit 1", true, net, net::isConsistent);
        net.setTurnLimit(60);
        Check.tells("limit 60", true, net, net::isConsistent);
        Net busy = Nets.busy();
        Check.tells("busy", true, busy, busy::isConsistent);
    }
}

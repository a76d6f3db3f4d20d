import java.util.NoSuchElementException;

/** The edges of promises 46 to 49: the empty and the full buffer, and the ranges inside programs. */
public final class ProgramEdgesTest {
    private static final Class<?> ELEMENT = NoSuchElementException.class;
    private static final Class<?> STATE = IllegalStateException.class;

    public static void main(String[] args) {
        typeFromOneToSixty();
        typeAnyCharacter();
        emptyAfterSuccess();
        emptyAfterSyntaxError();
        emptyAfterFailure();
        bufferStaysMeanwhile();
        fewestAndMostCommands();
        programOfSixtyCharacters();
        waitWithoutNumber();
        numbersOfOneAndTwoDigits();
        stationCommand();
        stationNumbers();
        powerCommand();
        limitAndWaitCommands();
        modesInPrograms();
        allOrNothing();
        eachCommandSeesTheOnesBefore();
        errorBeforeFailure();
        properPrefixes();
        errorAtFirstAndLast();
        recordsAtFirst();
        recordsOfTheLatest();
        failedFirstAndLast();
        Check.end();
    }

    /** "Returns the number of characters in the buffer afterwards.": 1 to 60 */
    private static void typeFromOneToSixty() {
        Net net = new Net();
        for (int i = 1; i <= 60; i++) {
            Check.same("type", i, net.type('w'));
        }
        Check.refuses("the sixty-first", STATE, net, () -> net.type('w'));
        Check.refuses("any other", STATE, net, () -> net.type(';'));
        Check.same("what was refused is not there", "throws java.lang.IllegalArgumentException",
                Check.outcome(net::run));
        Check.same("errorPosition", 1, net.errorPosition());
        Check.same("there is room again", 1, net.type('w'));
    }

    /** "any character" */
    private static void typeAnyCharacter() {
        Net net = new Net();
        int length = 0;
        for (char character : new char[] {0, 1, ' ', 127, 128, 255, 256, 0xD800, 0xDFFF, 0xFFFF}) {
            length++;
            Check.same("type " + (int) character, length, net.type(character));
        }
        for (char character : new char[] {0, '\t', 127, 255, 256, 0xD800, 0xFFFF, 'w' + 256}) {
            Check.refusesText(new Net(), "" + character, 0);
            Check.refusesText(new Net(), "wait" + character, 4);
        }
    }

    /** "The buffer is empty afterwards in every case." */
    private static void emptyAfterSuccess() {
        Net net = new Net();
        Check.same("run", 1, Check.run(net, "wait"));
        Check.refusesText(net, "", 0);
        Check.same("run", 1, Check.run(net, "wait"));
        Check.same("type", 1, net.type('w'));
    }

    private static void emptyAfterSyntaxError() {
        Net net = new Net();
        Check.refusesText(net, "wait;", 5);
        Check.refusesText(net, "", 0);
        Check.refusesText(net, "wait;", 5);
        Check.same("run", 1, Check.run(net, "wait"));
    }

    private static void emptyAfterFailure() {
        Net net = new Net();
        Check.failsAt(net, "wait;wait;call 0", 2);
        Check.refusesText(net, "", 0);
        Check.failsAt(net, "call 0", 0);
        Check.same("run", 1, Check.run(net, "wait"));
        Check.same("time", 1, net.time());
    }

    private static void bufferStaysMeanwhile() {
        Net net = new Net();
        Check.type(net, "wai");
        net.addStation('A', 0, 0, 0, 1, 0);
        net.save();
        net.pass(3);
        net.writeStation(0);
        net.undo();
        net.restore();
        Check.outcome(() -> net.pass(0));
        Check.same("type", 4, net.type('t'));
        Check.same("run", 1, net.run());
        Check.same("time", 1, net.time());
    }

    /** "Returns the number of commands.": 1 to 12, for no more go into the buffer */
    private static void fewestAndMostCommands() {
        StringBuilder text = new StringBuilder("wait");
        for (int i = 1; i <= 12; i++) {
            Net net = new Net();
            Check.same("run", i, Check.run(net, text.toString()));
            Check.same("time", i, net.time());
            text.append(";wait");
        }
        Check.refusesText(new Net(), text.substring(0, 60), 60);
        Check.refusesText(new Net(), "", 0);
    }

    private static void programOfSixtyCharacters() {
        Net net = Nets.crowd(2);
        String text = "call 0;call 1;cancel 1;over 0;call 1;over 1;limit 60;wait 60";
        Check.same("length", 60, text.length());
        Check.type(net, text);
        Check.refuses("full", STATE, net, () -> net.type(';'));
        Check.same("run", 8, net.run());
        Check.same("time", 60, net.time());
        Check.same("logLength", 2, net.logLength());
        Net other = new Net();
        String stations = "station A0 0,0 9 0;station B1 1,1 8 1;station C2 22,22 77 22";
        Check.same("length", 60, stations.length());
        Check.refusesText(other, stations, 59);
        Check.refusesText(other, stations.substring(0, 57) + "777", 57);
    }

    /** ""wait" without a number means one minute" */
    private static void waitWithoutNumber() {
        Net net = Nets.line(2);
        Check.run(net, "wait");
        Check.same("time", 1, net.time());
        Check.same("minutesSpoken", 1, net.minutesSpoken(0));
        Check.run(net, "wait;wait");
        Check.same("time", 3, net.time());
        Check.refusesText(net, "wait ", 5);
        Check.refusesText(net, "wait ;wait", 5);
    }

    /** "number = digit [ digit ]" */
    private static void numbersOfOneAndTwoDigits() {
        Net net = new Net();
        Check.run(net, "wait 9;wait 09;wait 10");
        Check.same("time", 28, net.time());
        Check.run(net, "station A0 5,05 05 5");
        net.writeStation(0);
        Check.same("line", "A0@5,5#5", net.output());
        Check.same("power", 5, net.power(0));
        Check.refusesText(net, "wait 100", 7);
        Check.refusesText(net, "wait 010", 7);
        Check.refusesText(net, "limit 100", 8);
        Check.refusesText(net, "power 0=100", 10);
        Check.refusesText(net, "move 0 100,5", 9);
        Check.refusesText(net, "move 0 5,100", 11);
        Check.refusesText(net, "station B0 100,5 9 0", 13);
        Check.refusesText(net, "station B0 5,100 9 0", 15);
        Check.refusesText(net, "station B0 5,5 100 0", 17);
        Check.refusesText(net, "station B0 5,5 99 10", 19);
        Check.refusesText(net, "move 0 -1,5", 7);
        Check.refusesText(net, "wait +1", 5);
        Check.refusesText(net, "wait ,", 5);
    }

    /** "a letter is a capital letter from A to Z" */
    private static void stationCommand() {
        Net net = new Net();
        Check.run(net, "station A0 0,0 1 0;station Z9 99,99 99 9");
        net.writeStation(0);
        Check.same("smallest", "A0@0,0#0", net.output());
        Check.same("power", 1, net.power(0));
        net.writeStation(1);
        Check.same("largest", "Z9@99,99#9", net.output());
        Check.same("power", 99, net.power(1));
        for (char letter : new char[] {'A' - 1, 'Z' + 1, 'a', '0', ' '}) {
            Check.refusesText(new Net(), "station " + letter + "0 0,0 1 0", 8);
        }
        for (char digit : new char[] {'0' - 1, '9' + 1, 'A', ' '}) {
            Check.refusesText(new Net(), "station A" + digit + " 0,0 1 0", 9);
            Check.refusesText(new Net(), "station A0 0,0 1 " + digit, 17);
        }
        Check.failsAt(new Net(), "station B0 0,0 0 0", 0);
        Check.failsAt(new Net(), "station B0 0,0 00 0", 0);
        Check.failsAt(net, "station B0 0,0 1 0;station A0 5,5 5 5", 1);
        Net seven = Nets.crowd(7);
        Check.failsAt(seven, "station B0 0,0 1 0;station C0 0,0 1 0", 1);
        Check.same("the eighth", 1, Check.run(seven, "station B0 0,0 1 0"));
        Check.failsAt(seven, "station C0 0,0 1 0", 0);
    }

    private static void stationNumbers() {
        String[] commands = {"move N 1,2", "power N=3", "tune N=4", "call N"};
        for (int count = 0; count <= 8; count += 4) {
            for (int i = 0; i < 10; i++) {
                for (String command : commands) {
                    Net net = Nets.crowd(count);
                    String text = command.replace('N', (char) ('0' + i));
                    if (i < count) {
                        Check.same(text, 1, Check.run(net, text));
                    } else {
                        Check.failsAt(net, text, 0);
                    }
                }
            }
        }
        Net line = Nets.line(8);
        Check.failsAt(line, "over 8", 0);
        Check.failsAt(line, "cancel 8", 0);
        Check.failsAt(line, "cancel 9", 0);
        Check.same("the last one", 1, Check.run(line, "cancel 7"));
        Check.same("the first one", 1, Check.run(line, "over 0"));
    }

    private static void powerCommand() {
        Net net = Nets.crowd(1);
        Check.failsAt(net, "power 0=0", 0);
        Check.failsAt(net, "power 0=00", 0);
        Check.run(net, "power 0=99");
        Check.same("largest", 99, net.power(0));
        Check.run(net, "power 0=1");
        Check.same("smallest", 1, net.power(0));
        Check.run(net, "move 0 0,0;tune 0=0");
        net.writeStation(0);
        Check.same("smallest", "A0@0,0#0", net.output());
        Check.run(net, "move 0 99,99;tune 0=9");
        net.writeStation(0);
        Check.same("largest", "A0@99,99#9", net.output());
    }

    private static void limitAndWaitCommands() {
        for (String outside : new String[] {"0", "00", "61", "99"}) {
            Check.failsAt(new Net(), "limit " + outside, 0);
            Check.failsAt(new Net(), "wait " + outside, 0);
            Check.failsAt(new Net(), "limit 5;wait;limit " + outside, 2);
            Check.failsAt(new Net(), "limit 5;wait;wait " + outside, 2);
        }
        for (String inside : new String[] {"1", "01", "2", "59", "60"}) {
            Net net = new Net();
            Check.same("run", 2, Check.run(net, "limit " + inside + ";wait " + inside));
            Check.same("turnLimit", Integer.parseInt(inside), net.turnLimit());
            Check.same("time", Integer.parseInt(inside), net.time());
        }
    }

    private static void modesInPrograms() {
        Net net = Nets.line(3);
        net.cancel(2);
        Check.failsAt(net, "call 0", 0);
        Check.failsAt(net, "call 1", 0);
        Check.failsAt(net, "over 1", 0);
        Check.failsAt(net, "over 2", 0);
        Check.failsAt(net, "cancel 0", 0);
        Check.failsAt(net, "cancel 2", 0);
        Check.failsAt(net, "tune 0=3", 0);
        Check.failsAt(net, "tune 1=3", 0);
        Check.same("what can be done", 4, Check.run(net, "tune 2=4;call 2;cancel 1;over 0"));
    }

    /** "either all of them or, if one of them fails, none" */
    private static void allOrNothing() {
        Net net = Nets.busy();
        Check.outcome(net::run);
        Check.failsAt(net, "move 0 9,9;power 1=9;tune 5=9;call 5;limit 9;wait 9;over 6", 6);
        Check.failsAt(net, "over 0;wait;over 0", 2);
        Check.failsAt(net, "over 2;cancel 1;cancel 1", 0);
        Net seven = Nets.crowd(7);
        Check.failsAt(seven, "station B0 0,0 1 0;call 7;wait 60;limit 61", 3);
        Check.same("stations", 7, seven.stations());
    }

    private static void eachCommandSeesTheOnesBefore() {
        Net net = new Net();
        Check.same("run", 4, Check.run(net, "station A0 0,0 1 0;call 0;over 0;tune 0=9"));
        Check.same("channel", 9, net.channel(0));
        Check.same("run", 4, Check.run(net, "call 0;limit 1;wait;tune 0=8"));
        Check.failsAt(net, "call 0;limit 2;wait;tune 0=7", 3);
        Check.same("channel", 8, net.channel(0));
    }

    /** "Throws IllegalArgumentException if the text is not a program", whatever its commands would do */
    private static void errorBeforeFailure() {
        Net net = new Net();
        Check.refusesText(net, "call 0;", 7);
        Check.refusesText(net, "call 0;wait 0;x", 14);
        Check.refusesText(net, "limit 61;wait 100", 16);
        Check.refuses("no command failed", ELEMENT, net, net::failedCommand);
    }

    /** "or the length of the text if the text is a proper prefix of a program" */
    private static void properPrefixes() {
        String program = "station K7 10,42 33 5;tune 0=6;wait;";
        for (int i = 0; i <= program.length(); i++) {
            String text = program.substring(0, i);
            if (!text.endsWith(" 5") && !text.endsWith("=6") && !text.endsWith("wait")) {
                Check.refusesText(new Net(), text, i);
            }
        }
        Check.same("no prefix", 3, Check.run(new Net(), program.substring(0, 35)));
    }

    private static void errorAtFirstAndLast() {
        Check.refusesText(new Net(), "x", 0);
        Check.refusesText(new Net(), "wait;wait;wait;wait;wait;wait;wait;wait;wait;wait;wait;waitx", 59);
        Check.refusesText(new Net(), "xwait;wait;wait;wait;wait;wait;wait;wait;wait;wait;wait;wait", 0);
        Check.refusesText(new Net(), "wait;wait;wait;wait;wait;wait;wait;wait;wait;wait;wait;wait;", 60);
        Check.refusesText(new Net(), "limit 10;limit 11;limit 12;limit 13;limit 14;limit 15;cancel", 60);
    }

    /** "Throws NoSuchElementException if there was no such text", ".. if no command failed" */
    private static void recordsAtFirst() {
        Net net = new Net();
        Check.refuses("errorPosition", ELEMENT, net, net::errorPosition);
        Check.refuses("failedCommand", ELEMENT, net, net::failedCommand);
        Check.run(net, "wait");
        Check.outcome(() -> net.release(0));
        Check.refuses("errorPosition", ELEMENT, net, net::errorPosition);
        Check.refuses("failedCommand", ELEMENT, net, net::failedCommand);
        Net failed = new Net();
        Check.failsAt(failed, "call 0", 0);
        Check.refuses("errorPosition", ELEMENT, failed, failed::errorPosition);
        Check.tells("failedCommand", 0, failed, failed::failedCommand);
        Net wrong = new Net();
        Check.refusesText(wrong, "", 0);
        Check.tells("errorPosition", 0, wrong, wrong::errorPosition);
        Check.refuses("failedCommand", ELEMENT, wrong, wrong::failedCommand);
    }

    /** "of the latest text that was not a program", "of the latest command that failed" */
    private static void recordsOfTheLatest() {
        Net net = new Net();
        Check.refusesText(net, "wait;wait;", 10);
        Check.refusesText(net, "w", 1);
        Check.failsAt(net, "wait;wait;over 0", 2);
        Check.failsAt(net, "wait;over 0", 1);
        Check.run(net, "wait");
        Check.same("errorPosition", 1, net.errorPosition());
        Check.same("failedCommand", 1, net.failedCommand());
        Check.refusesText(net, "", 0);
        Check.failsAt(net, "over 0", 0);
        Check.same("errorPosition", 0, net.errorPosition());
        net.save();
        net.undo();
        net.restore();
        Check.same("errorPosition", 0, net.errorPosition());
        Check.same("failedCommand", 0, net.failedCommand());
    }

    /** "the number of this command, counted from 0": 0 to 10, for "wait" cannot fail */
    private static void failedFirstAndLast() {
        StringBuilder text = new StringBuilder();
        for (int i = 0; i < 11; i++) {
            Check.failsAt(new Net(), text + "over 0", i);
            text.append("wait;");
        }
        Net net = Nets.crowd(1);
        Check.failsAt(net, "wait;wait;wait;wait;wait;wait;wait;wait;wait;wait;over 0", 10);
        Check.failsAt(net, "wait 0;wait 0;wait 0", 0);
        Check.failsAt(net, "wait;wait;wait;wait;wait;wait;wait;wait;wait;wait;over 0", 10);
    }
}

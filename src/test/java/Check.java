import java.util.Objects;

/** What the tests share: due answers, due refusals, and all that can be seen of a net as a text. */
final class Check {
    interface Call {
        Object answer();
    }

    private static int wrong = 0;

    private Check() {
    }

    static void same(String what, Object due, Object got) {
        if (!Objects.equals(due, got)) {
            wrong++;
            System.out.println(what + " answered " + got + ", due is " + due);
        }
    }

    /** A refused call throws exactly the due class, by the net's own throw, and changes nothing. */
    static void refuses(String what, Class<?> due, RadioNet net, Call call) {
        String before = seen(net);
        String got = outcome(call);
        same(what, "throws " + due.getName(), got);
        same(what + ": what is seen afterwards", before, seen(net));
    }

    static String outcome(Call call) {
        try {
            return String.valueOf(call.answer());
        } catch (RuntimeException e) {
            boolean own = e.getStackTrace().length > 0
                    && e.getStackTrace()[0].getClassName().startsWith("RadioNet")
                    && !"/ by zero".equals(e.getMessage());
            return "throws " + e.getClass().getName() + (own ? "" : " of the machine");
        }
    }

    static void end() {
        System.out.println(wrong == 0 ? "all answers are as due" : wrong + " answers are not as due");
        if (wrong != 0) {
            System.exit(1);
        }
    }

    /** Types a text and runs it. */
    static int run(RadioNet net, String text) {
        type(net, text);
        return net.run();
    }

    static void type(RadioNet net, String text) {
        for (int i = 0; i < text.length(); i++) {
            net.type(text.charAt(i));
        }
    }

    static String output(RadioNet net) {
        StringBuilder text = new StringBuilder();
        while (outcome(() -> net.charAt(text.length())).length() == 1) {
            text.append(net.charAt(text.length()));
        }
        return text.toString();
    }

    /** All that can be seen of a net without changing it. */
    static String seen(RadioNet net) {
        return state(net) + "output " + output(net)
                + "\nerror " + outcome(net::errorPosition)
                + "\nfailed " + outcome(net::failedCommand) + "\n";
    }

    /** What can be seen of the state that is undone, saved and restored. */
    static String state(RadioNet net) {
        StringBuilder text = new StringBuilder();
        int count = net.stations();
        text.append(count).append(" stations, time ").append(net.time());
        text.append(", limit ").append(net.turnLimit()).append('\n');
        for (int i = 0; i < count; i++) {
            int station = i;
            text.append(net.letter(i)).append(net.digit(i)).append(' ').append(net.channel(i));
            text.append(' ').append(net.power(i)).append(' ').append(net.isSpeaking(i));
            text.append(' ').append(net.isWaiting(i)).append(' ').append(net.minutesSpoken(i));
            text.append(' ').append(net.minutesReceived(i)).append(' ').append(net.isJammed(i));
            text.append(' ').append(outcome(() -> net.minutesUntilTurn(station)));
            text.append(' ').append(outcome(() -> net.minutesUntilTurnBySimulation(station)));
            text.append(' ').append(net.reachable(i));
            text.append(' ').append(net.stationByMinutes(i)).append('\n');
            for (int j = 0; j < count; j++) {
                int other = j;
                text.append(net.canHear(i, j)).append(' ');
                text.append(outcome(() -> net.hops(station, other))).append(' ');
                text.append(outcome(() -> net.hopsBySets(station, other))).append(' ');
            }
            text.append('\n');
        }
        for (int i = 0; i < 10; i++) {
            int channel = i;
            text.append(i).append(": ").append(outcome(() -> net.speaker(channel)));
            for (int j = 1; j <= net.lineLength(i); j++) {
                text.append(" < ").append(net.waiting(i, j));
            }
            text.append('\n');
        }
        for (int i = 0; i < net.logLength(); i++) {
            text.append(net.logStation(i)).append('+').append(net.logBegin(i));
            text.append('+').append(net.logMinutes(i)).append(' ');
        }
        text.append(net.jams()).append(' ').append(net.jamsByChannels()).append(' ');
        text.append(outcome(net::meanPower)).append(' ').append(outcome(net::airtime)).append(' ');
        return text.append(net.isConsistent()).append('\n').toString();
    }
}

/** What is seen of a net, part by part; each part needs less than 150 calls. */
final class Seen {
    private Seen() {
    }

    static String stations(Net net) {
        StringBuilder text = new StringBuilder();
        int count = net.stations();
        text.append(count).append(" stations, time ").append(net.time());
        text.append(", limit ").append(net.turnLimit()).append('\n');
        for (int i = 0; i < count; i++) {
            text.append(net.letter(i)).append(net.digit(i)).append(' ').append(net.channel(i));
            text.append(' ').append(net.power(i)).append(' ').append(net.isSpeaking(i));
            text.append(' ').append(net.isWaiting(i)).append(' ').append(net.minutesSpoken(i));
            text.append(' ').append(net.minutesReceived(i)).append('\n');
        }
        return text.toString();
    }

    /** The lines of all stations, which alone tell the places. */
    static String places(Net net) {
        StringBuilder text = new StringBuilder();
        int count = net.stations();
        for (int i = 0; i < count; i++) {
            net.writeStation(i);
            text.append(output(net)).append('\n');
        }
        return text.toString();
    }

    static String channels(Net net) {
        StringBuilder text = new StringBuilder();
        for (int i = 0; i < 10; i++) {
            int channel = i;
            text.append(i).append(": ").append(Check.outcome(() -> net.speaker(channel)));
            int length = net.lineLength(i);
            for (int j = 1; j <= length; j++) {
                text.append(" < ").append(net.waiting(i, j));
            }
            text.append('\n');
        }
        return text.toString();
    }

    static String log(Net net) {
        StringBuilder text = new StringBuilder("log");
        int length = net.logLength();
        for (int i = 0; i < length; i++) {
            text.append(' ').append(net.logStation(i)).append('+').append(net.logBegin(i));
            text.append('+').append(net.logMinutes(i));
        }
        return text.append('\n').toString();
    }

    /** How long the turns have lasted, which releases alone tell. */
    static String turns(Net net) {
        StringBuilder text = new StringBuilder("turns");
        for (int i = 0; i < 8; i++) {
            int station = i;
            text.append(' ').append(Check.outcome(() -> net.release(station)));
        }
        return text.append('\n').toString();
    }

    static String hearing(Net net) {
        StringBuilder text = new StringBuilder();
        int count = net.stations();
        for (int i = 0; i < count; i++) {
            for (int j = 0; j < count; j++) {
                int from = i;
                int to = j;
                text.append(net.canHear(i, j)).append(' ');
                text.append(Check.outcome(() -> net.hops(from, to))).append(' ');
            }
            text.append('\n');
        }
        return text.toString();
    }

    static String statistics(Net net) {
        StringBuilder text = new StringBuilder();
        int count = net.stations();
        for (int i = 0; i < count; i++) {
            int station = i;
            text.append(net.isJammed(i)).append(' ').append(net.reachable(i)).append(' ');
            text.append(net.stationByMinutes(i)).append(' ');
            text.append(Check.outcome(() -> net.minutesUntilTurn(station))).append(' ');
            text.append(Check.outcome(() -> net.minutesUntilTurnBySimulation(station))).append('\n');
        }
        text.append(net.jams()).append(' ').append(net.jamsByChannels()).append(' ');
        text.append(Check.outcome(net::meanPower)).append(' ').append(Check.outcome(net::airtime));
        return text.append(' ').append(net.isConsistent()).append('\n').toString();
    }

    static String records(Net net) {
        return "error " + Check.outcome(net::errorPosition)
                + "\nfailed " + Check.outcome(net::failedCommand) + "\n";
    }

    static String output(Net net) {
        StringBuilder text = new StringBuilder();
        for (int i = 0; i < 30; i++) {
            int index = i;
            String character = Check.outcome(() -> net.charAt(index));
            if (character.length() != 1) {
                break;
            }
            text.append(character);
        }
        return text.toString();
    }
}

import java.util.NoSuchElementException;

/** The edges of promises 27 to 33: ranges of hearing and jamming, smallest and largest numbers. */
public final class HearingEdgesTest {
    private static final Class<?> ELEMENT = NoSuchElementException.class;
    private static final Class<?> INDEX = IndexOutOfBoundsException.class;

    public static void main(String[] args) {
        distanceAtMostThePower();
        powerOfTheOtherStation();
        hearingOnTheSameChannel();
        hearingItself();
        twiceTheDistanceAtMostThePower();
        channelsDifferByExactlyOne();
        speakingStationsJam();
        jammedInEveryMode();
        fewestAndMostJams();
        jamsOnEveryPairOfChannels();
        hopsToItself();
        fewestAndMostHops();
        messagesThatCannotGetThere();
        reachableFromOneToEight();
        speakingDoesNotMatter();
        for (int count = 1; count <= 8; count++) {
            stationsThatDoNotExist(count);
        }
        Check.end();
    }

    private static Net pair(int x, int y, int otherX, int otherY, int power) {
        Net net = new Net();
        net.addStation('A', 0, x, y, power, 5);
        net.addStation('B', 0, otherX, otherY, power, 5);
        return net;
    }

    /** "their Euclidean distance is at most the power of the other station" */
    private static void distanceAtMostThePower() {
        int[][] inside = {{0, 0, 1}, {1, 0, 1}, {0, 1, 1}, {1, 1, 2}, {3, 4, 5}, {4, 3, 5}, {0, 5, 5},
            {6, 8, 10}, {99, 0, 99}, {0, 99, 99}, {70, 70, 99}, {63, 76, 99}, {20, 21, 29}};
        int[][] outside = {{1, 1, 1}, {0, 2, 1}, {2, 0, 1}, {3, 4, 4}, {5, 1, 5}, {1, 5, 5},
            {99, 0, 98}, {0, 99, 98}, {99, 1, 99}, {70, 71, 99}, {99, 99, 99}, {20, 21, 28}};
        for (int[] row : inside) {
            hearing(true, pair(0, 0, row[0], row[1], row[2]));
            hearing(true, pair(99, 99, 99 - row[0], 99 - row[1], row[2]));
        }
        for (int[] row : outside) {
            hearing(false, pair(0, 0, row[0], row[1], row[2]));
            hearing(false, pair(99, 0, 99 - row[0], row[1], row[2]));
        }
    }

    private static void hearing(boolean due, Net net) {
        Check.same("canHear", due, net.canHear(0, 1));
        Check.same("canHear", due, net.canHear(1, 0));
        Check.same("reachable", due ? 2 : 1, net.reachable(0));
        net.request(0);
        Check.same("received", due ? 1 : 0, net.pass(1));
    }

    private static void powerOfTheOtherStation() {
        Net net = pair(0, 0, 10, 0, 10);
        net.setPower(0, 9);
        Check.same("the weak one", false, net.canHear(1, 0));
        Check.same("the strong one", true, net.canHear(0, 1));
        net.setPower(0, 10);
        net.setPower(1, 9);
        Check.same("the strong one", true, net.canHear(1, 0));
        Check.same("the weak one", false, net.canHear(0, 1));
    }

    /** "if both are on the same channel" */
    private static void hearingOnTheSameChannel() {
        for (int channel = 0; channel <= 9; channel++) {
            Net net = pair(0, 0, 0, 0, 99);
            net.tune(1, channel);
            Check.same("channel " + channel, channel == 5, net.canHear(0, 1));
            Check.same("channel " + channel, channel == 5, net.canHear(1, 0));
        }
    }

    /** "false also for the same station" */
    private static void hearingItself() {
        Net net = Nets.crowd(8);
        for (int i = 0; i < 8; i++) {
            Check.same("itself", false, net.canHear(i, i));
            Check.same("another one", true, net.canHear(i, (i + 1) % 8));
        }
    }

    /** "twice their Euclidean distance is at most the power of the speaking station" */
    private static void twiceTheDistanceAtMostThePower() {
        int[][] inside = {{0, 0, 1}, {1, 0, 2}, {0, 1, 3}, {1, 1, 3}, {3, 4, 10}, {0, 5, 10}, {4, 0, 9},
            {4, 2, 9}, {49, 0, 99}, {49, 7, 99}, {0, 49, 98}, {6, 8, 20}};
        int[][] outside = {{1, 0, 1}, {0, 1, 1}, {1, 1, 2}, {3, 4, 9}, {5, 1, 10}, {0, 5, 9},
            {4, 3, 9}, {50, 0, 99}, {34, 36, 99}, {0, 49, 97}, {99, 99, 99}, {6, 8, 19}};
        for (int[] row : inside) {
            jamming(true, pair(0, 0, row[0], row[1], row[2]));
            jamming(true, pair(99, 99, 99 - row[0], 99 - row[1], row[2]));
        }
        for (int[] row : outside) {
            jamming(false, pair(0, 0, row[0], row[1], row[2]));
            jamming(false, pair(99, 0, 99 - row[0], row[1], row[2]));
        }
    }

    private static void jamming(boolean due, Net net) {
        net.tune(1, 6);
        net.request(0);
        // The power of the station that is jammed does not matter.
        net.setPower(1, 50);
        Check.same("isJammed", due, net.isJammed(1));
        Check.same("the speaking one", false, net.isJammed(0));
        Check.same("jams", due ? 1 : 0, net.jams());
        Check.same("jamsByChannels", due ? 1 : 0, net.jamsByChannels());
    }

    /** "if their channels differ by exactly 1" */
    private static void channelsDifferByExactlyOne() {
        for (int speaking = 0; speaking <= 9; speaking++) {
            for (int channel = 0; channel <= 9; channel++) {
                Net net = pair(0, 0, 0, 0, 99);
                net.tune(0, speaking);
                net.tune(1, channel);
                net.request(0);
                boolean due = channel == speaking - 1 || channel == speaking + 1;
                Check.same("isJammed on " + channel + " by " + speaking, due, net.isJammed(1));
                Check.same("jams", due ? 1 : 0, net.jams());
                Check.same("jamsByChannels", due ? 1 : 0, net.jamsByChannels());
            }
        }
    }

    /** "A speaking station jams": an idle or a waiting one does not. */
    private static void speakingStationsJam() {
        Net net = Nets.crowd(3);
        net.tune(2, 4);
        Check.same("idle ones", false, net.isJammed(2));
        net.request(0);
        net.request(1);
        Check.same("a speaking one", true, net.isJammed(2));
        net.move(0, 0, 0);
        Check.same("a waiting one", false, net.isJammed(2));
        Check.same("jams", 0, net.jams());
        net.release(0);
        Check.same("it speaks now", true, net.isJammed(2));
        Check.same("jams", 1, net.jams());
        net.release(1);
        Check.same("idle again", false, net.isJammed(2));
        Check.same("jams", 0, net.jams());
    }

    /** "the other station can be idle, speaking or waiting" */
    private static void jammedInEveryMode() {
        Net net = Nets.crowd(4);
        net.tune(3, 2);
        net.request(3);
        net.request(0);
        net.request(1);
        Check.same("a speaking one", true, net.isJammed(0));
        Check.same("a waiting one", true, net.isJammed(1));
        Check.same("an idle one", true, net.isJammed(2));
        Check.same("by the speaking one", true, net.isJammed(3));
        Check.same("jams", 4, net.jams());
        Check.same("jamsByChannels", 4, net.jamsByChannels());
    }

    private static void fewestAndMostJams() {
        Net net = Nets.crowd(8);
        jamsAre(net, 0);
        net.tune(0, 2);
        net.tune(1, 4);
        jamsAre(net, 0);
        net.request(0);
        jamsAre(net, 6);
        net.request(1);
        jamsAre(net, 12);
        net.request(2);
        jamsAre(net, 14);
        jamsAre(Nets.speakers(8), 14);
    }

    private static void jamsAre(Net net, int pairs) {
        Check.same("jams", pairs, net.jams());
        Check.same("jamsByChannels", pairs, net.jamsByChannels());
    }

    /** "counting the pairs of neighbouring channels": 0 and 1 to 8 and 9 */
    private static void jamsOnEveryPairOfChannels() {
        for (int channel = 0; channel <= 8; channel++) {
            Net net = Nets.crowd(8);
            for (int i = 0; i < 8; i++) {
                net.tune(i, i < 5 ? channel : channel + 1);
            }
            net.request(0);
            jamsAre(net, 3);
            net.request(7);
            jamsAre(net, 8);
            net.release(0);
            jamsAre(net, 5);
        }
    }

    private static void hopsAre(Net net, int due, int from, int to) {
        Check.same("hops", due, net.hops(from, to));
        Check.same("hopsBySets", due, net.hopsBySets(from, to));
    }

    private static void noHops(Net net, int from, int to) {
        Check.refuses("hops", ELEMENT, net, () -> net.hops(from, to));
        Check.refuses("hopsBySets", ELEMENT, net, () -> net.hopsBySets(from, to));
    }

    private static Net chain() {
        Net net = new Net();
        for (int i = 0; i < 8; i++) {
            net.addStation('A', i, 10 * i, 0, 10, 2);
        }
        return net;
    }

    /** "the hops, 0 for the same station", also if nobody can hear it */
    private static void hopsToItself() {
        Net alone = Nets.crowd(1);
        hopsAre(alone, 0, 0, 0);
        Net net = chain();
        net.move(3, 99, 99);
        for (int i = 0; i < 8; i++) {
            hopsAre(net, 0, i, i);
        }
    }

    private static void fewestAndMostHops() {
        Net net = chain();
        hopsAre(net, 1, 0, 1);
        hopsAre(net, 1, 7, 6);
        hopsAre(net, 7, 0, 7);
        hopsAre(net, 7, 7, 0);
        net.setPower(0, 69);
        hopsAre(net, 2, 0, 7);
        net.setPower(0, 70);
        hopsAre(net, 1, 0, 7);
        hopsAre(net, 7, 7, 0);
    }

    /** "Throws NoSuchElementException if a message cannot get there" */
    private static void messagesThatCannotGetThere() {
        Net net = chain();
        net.move(7, 71, 0);
        noHops(net, 0, 7);
        noHops(net, 6, 7);
        noHops(net, 7, 0);
        net.setPower(7, 11);
        hopsAre(net, 7, 7, 0);
        noHops(net, 0, 7);
        net.tune(3, 3);
        noHops(net, 0, 3);
        noHops(net, 3, 0);
        noHops(net, 2, 4);
        hopsAre(net, 2, 0, 2);
    }

    /** "the station itself included": 1 to 8 */
    private static void reachableFromOneToEight() {
        Check.same("alone", 1, Nets.crowd(1).reachable(0));
        for (int count = 1; count <= 8; count++) {
            Net net = chain();
            net.setPower(count - 1, 9);
            Check.same("to the weak one", count, net.reachable(0));
            Check.same("the weak one", 1, net.reachable(count - 1));
            Check.same("from the other end", count < 8 ? 9 - count : 1, net.reachable(7));
        }
    }

    /** "whether anybody is speaking or not" */
    private static void speakingDoesNotMatter() {
        Net net = chain();
        for (int i = 0; i < 8; i++) {
            net.request(i);
        }
        hopsAre(net, 7, 0, 7);
        Check.same("canHear", true, net.canHear(0, 1));
        Check.same("reachable", 8, net.reachable(4));
        Net jammed = Nets.speakers(2);
        jammed.addStation('B', 0, 50, 50, 1, 0);
        Check.same("isJammed", true, jammed.isJammed(2));
        Check.same("a jammed one can hear", true, jammed.canHear(2, 0));
        hopsAre(jammed, 1, 0, 2);
        Check.same("reachable", 2, jammed.reachable(0));
    }

    /** "Throws IndexOutOfBoundsException if one of the stations does not exist" */
    private static void stationsThatDoNotExist(int count) {
        Net net = Nets.crowd(count);
        int last = count - 1;
        Check.same("the last one", count > 1, net.canHear(last, 0));
        Check.same("the last one", false, net.isJammed(last));
        Check.same("the last one", count, net.reachable(last));
        hopsAre(net, count > 1 ? 1 : 0, 0, last);
        hopsAre(net, count > 1 ? 1 : 0, last, 0);
        for (int outside : new int[] {-1, count, Integer.MIN_VALUE, Integer.MAX_VALUE}) {
            Check.refuses("canHear", INDEX, net, () -> net.canHear(outside, last));
            Check.refuses("canHear", INDEX, net, () -> net.canHear(last, outside));
            Check.refuses("canHear", INDEX, net, () -> net.canHear(outside, outside));
            Check.refuses("isJammed", INDEX, net, () -> net.isJammed(outside));
            Check.refuses("hops", INDEX, net, () -> net.hops(outside, last));
            Check.refuses("hops", INDEX, net, () -> net.hops(last, outside));
            Check.refuses("hops", INDEX, net, () -> net.hops(outside, outside));
            Check.refuses("hopsBySets", INDEX, net, () -> net.hopsBySets(outside, last));
            Check.refuses("hopsBySets", INDEX, net, () -> net.hopsBySets(last, outside));
            Check.refuses("hopsBySets", INDEX, net, () -> net.hopsBySets(outside, outside));
            Check.refuses("reachable", INDEX, net, () -> net.reachable(outside));
        }
    }
}

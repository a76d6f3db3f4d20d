/** "An object is used for at most 512 calls": the last of them answers as well as the first. */
public final class LifeTest {
    public static void main(String[] args) {
        passing();
        changing();
        undoing();
        running();
        asking();
        Check.end();
    }

    private static void passing() {
        Net net = Nets.crowd(8);
        net.setTurnLimit(60);
        int received = 0;
        for (int i = 0; i < 250; i++) {
            Check.same("request", 0, net.request(i % 8));
            received += net.pass(60);
        }
        Check.same("received", 250 * 7 * 60, received);
        Check.same("time", 15000, net.time());
        Check.same("minutesSpoken", 32 * 60, net.minutesSpoken(0));
        Check.same("the last call of all", 14940, net.logBegin(15));
    }

    /** The most time that 512 calls can let pass. */
    private static void changing() {
        Net net = new Net();
        for (int i = 0; i < 511; i++) {
            Check.same("pass", 0, net.pass(60));
        }
        Check.same("the last call of all", 511 * 60, net.time());
    }

    private static void undoing() {
        Net net = Nets.line(8);
        net.save();
        for (int i = 0; i < 61; i++) {
            for (int j = 0; j < 3; j++) {
                Check.same("release", 0, net.release(j));
            }
            for (int j = 2; j >= 0; j--) {
                Check.same("undo", 5 + j, net.undo());
            }
            net.setTurnLimit(i % 60 + 1);
            net.undo();
        }
        Check.same("waiting", 7, net.waiting(3, 7));
        Check.same("undo", 4, net.undo());
        Check.same("restore", 8, net.restore());
        Check.same("speaker", 0, net.speaker(3));
        Check.same("logLength", 0, net.logLength());
        Check.same("time", 0, net.time());
        Check.same("the last call of all", 10, net.turnLimit());
    }

    private static void running() {
        Net net = new Net();
        String program = "limit 1;limit 2;limit 3;limit 4;limit 5;limit 6;wait 60;wait";
        for (int i = 0; i < 8; i++) {
            Check.same("run", 8, Check.run(net, program));
        }
        for (int i = 7; i >= 0; i--) {
            Check.same("undo", i, net.undo());
        }
        Check.same("time", 0, net.time());
        Check.same("turnLimit", 10, net.turnLimit());
        for (int i = 0; i < 13; i++) {
            Check.same("pass", 0, net.pass(1));
        }
        Check.same("the last call of all", 13, net.time());
    }

    private static void asking() {
        Net net = Nets.line(8);
        net.setTurnLimit(60);
        for (int i = 0; i < 98; i++) {
            Check.same("isConsistent", true, net.isConsistent());
            Check.same("by simulation", 420, net.minutesUntilTurnBySimulation(7));
            Check.same("hops", 1, net.hops(0, 7));
            Check.same("writeChannel", 23, net.writeChannel(3));
            Check.same("charAt", '7', net.charAt(22));
        }
        Check.same("reachable", 8, net.reachable(0));
        Check.same("release", 0, net.release(0));
        Check.same("release", 0, net.release(1));
        Check.same("waiting", 3, net.waiting(3, 1));
        Check.same("the last call of all", 2, net.logLength());
    }
}

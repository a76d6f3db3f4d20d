/** Promises 50 to 52: undo, save, restore. */
public final class UndoTest {
    private static final Class<?> STATE = IllegalStateException.class;

    public static void main(String[] args) {
        everyChange();
        whatIsNoChange();
        eightLatest();
        afterUndoing();
        saveAndRestore();
        logComesBack();
        turnBeginComesBack();
        bufferStays();
        Check.end();
    }

    private static void undoes(Net net, Runnable change) {
        String before = net.state();
        change.run();
        Check.same("changed", false, before.equals(net.state()));
        net.undo();
        Check.same("undone", before, net.state());
        change.run();
    }

    private static void everyChange() {
        Net net = new Net();
        undoes(net, () -> net.addStation('A', 0, 0, 0, 20, 0));
        undoes(net, () -> net.addStation('B', 0, 0, 0, 20, 0));
        undoes(net, () -> net.addStation('C', 0, 0, 0, 20, 0));
        undoes(net, () -> net.setPower(0, 21));
        undoes(net, () -> net.move(1, 0, 21));
        undoes(net, () -> net.tune(2, 9));
        undoes(net, () -> net.tune(2, 0));
        undoes(net, () -> net.request(0));
        undoes(net, () -> net.request(1));
        undoes(net, () -> net.request(2));
        undoes(net, () -> net.setTurnLimit(7));
        undoes(net, () -> net.pass(3));
        undoes(net, () -> net.release(0));
        undoes(net, () -> net.cancel(2));
        undoes(net, () -> net.pass(30));
        undoes(net, () -> Check.run(net, "call 0;call 1;wait 5;over 0;limit 3"));
        for (int i = 0; i < 2; i++) {
            undoes(net, () -> Check.run(net, "tune 2=8;call 2;wait;over 2"));
        }
    }

    private static void whatIsNoChange() {
        Net net = new Net();
        Check.refuses("nothing to undo", STATE, net, net::undo);
        net.addStation('A', 0, 0, 0, 20, 0);
        net.save();
        net.type('w');
        net.writeStation(0);
        net.isConsistent();
        Check.outcome(net::run);
        Check.outcome(() -> net.release(0));
        Check.outcome(() -> net.pass(0));
        Check.outcome(() -> Check.run(net, "over 0"));
        Check.same("only the station", 0, net.undo());
        Check.same("stations", 0, net.stations());
        Check.refuses("nothing more", STATE, net, net::undo);
    }

    private static void eightLatest() {
        Net net = new Net();
        net.addStation('A', 0, 0, 0, 20, 0);
        for (int i = 1; i <= 12; i++) {
            net.setTurnLimit(i);
        }
        for (int i = 1; i <= 8; i++) {
            Check.same("undo", 8 - i, net.undo());
            Check.same("turnLimit", 12 - i, net.turnLimit());
        }
        Check.refuses("older ones", STATE, net, net::undo);
        net.setPower(0, 20);
        Check.same("what changes nothing counts", 0, net.undo());
    }

    private static void afterUndoing() {
        Net net = new Net();
        for (int i = 1; i <= 8; i++) {
            net.setTurnLimit(i);
        }
        net.undo();
        net.undo();
        net.undo();
        net.setTurnLimit(20);
        Check.same("undo", 5, net.undo());
        Check.same("turnLimit", 5, net.turnLimit());
        for (int i = 1; i <= 20; i++) {
            net.setTurnLimit(20 + i);
        }
        Check.same("undo", 7, net.undo());
        Check.same("turnLimit", 39, net.turnLimit());
    }

    private static void saveAndRestore() {
        Net net = new Net();
        Check.refuses("nothing was saved", STATE, net, net::restore);
        Check.same("a net without stations can be saved", 0, net.save());
        net.addStation('A', 0, 0, 0, 20, 0);
        net.addStation('B', 0, 0, 0, 20, 0);
        net.request(1);
        net.request(0);
        net.pass(12);
        Check.same("restore", 0, net.restore());
        Check.same("time", 0, net.time());
        Check.refuses("no change can be undone", STATE, net, net::undo);
        net.addStation('C', 0, 0, 0, 20, 0);
        net.addStation('D', 0, 0, 0, 20, 0);
        net.request(1);
        net.request(0);
        net.pass(12);
        Check.same("save", 2, net.save());
        String saved = net.state();
        Check.same("save is no change, changes before it can be undone", 4, net.undo());
        Check.same("time", 0, net.time());
        Check.same("the saved state is no part of the state", 2, net.restore());
        Check.same("restored", saved, net.state());
        net.pass(60);
        net.addStation('E', 0, 0, 0, 20, 0);
        Check.same("it stays saved", 2, net.restore());
        Check.same("restored", saved, net.state());
        net.pass(1);
        Check.same("changes count anew", 0, net.undo());
        Check.same("undone", saved, net.state());
        Check.refuses("no more", STATE, net, net::undo);
    }

    private static Net pair() {
        Net net = new Net();
        net.addStation('A', 0, 0, 0, 20, 0);
        net.addStation('B', 0, 0, 0, 20, 1);
        return net;
    }

    private static void turn(Net net, int station, int minutes) {
        net.request(station);
        net.pass(minutes);
        net.release(station);
    }

    /** A log whose oldest entries have gone has them again. */
    private static void logComesBack() {
        Net net = pair();
        for (int i = 0; i < 16; i++) {
            turn(net, i % 3 == 0 ? 0 : 1, i % 5 + 1);
        }
        String full = net.state();
        net.save();
        net.request(0);
        net.release(0);
        net.undo();
        net.undo();
        Check.same("undone", full, net.state());
        for (int i = 0; i < 5; i++) {
            turn(net, 0, 7);
        }
        net.restore();
        Check.same("restored", full, net.state());
        Check.run(net, "call 1;wait 9;over 1;call 0;over 0");
        Check.same("the station of a program's turn", 1, net.logStation(14));
        Check.same("its minutes", 9, net.logMinutes(14));
        Check.same("the begin of the next", net.time(), net.logBegin(15));
        net.undo();
        Check.same("undone", full, net.state());
    }

    private static void turnBeginComesBack() {
        Net net = pair();
        net.request(0);
        net.pass(4);
        net.save();
        net.release(0);
        net.request(0);
        net.undo();
        net.undo();
        Check.same("the turn's minutes after undoing", 4, net.release(0));
        net.pass(9);
        net.request(0);
        net.restore();
        net.pass(1);
        Check.same("the turn's minutes after restoring", 5, net.release(0));
        Check.same("its begin", 0, net.logBegin(0));
    }

    private static void bufferStays() {
        Net net = new Net();
        net.setTurnLimit(5);
        net.save();
        Check.type(net, "wait 3");
        net.undo();
        net.restore();
        Check.same("the buffer is no part of the state", 7, net.type('0'));
        Check.same("run", 1, net.run());
        Check.same("time", 30, net.time());
    }
}

/** The edges of promises 50 to 52: the empty and the full history, and what is no change. */
public final class UndoEdgesTest {
    private static final Class<?> STATE = IllegalStateException.class;

    public static void main(String[] args) {
        emptyHistory();
        for (int changes = 1; changes <= 18; changes++) {
            latestEight(changes);
            undoneAndChangedAgain(changes);
        }
        oldestIsDropped();
        everyChangeCountsOnce();
        refusedCallsAreNoChanges();
        failedProgramsAreNoChanges();
        whatElseIsNoChange();
        whatIsNotUndone();
        changesThatChangeNothing();
        undoOfEachChange();
        undoOfFullLog();
        undoToTheEmptyNet();
        nothingWasSaved();
        saveFromNoneToEight();
        saveReplaces();
        restoreStaysSaved();
        restoreClearsTheHistory();
        historyAfterRestore();
        savedStateIsNotTheNet();
        whatIsNotRestored();
        Check.end();
    }

    private static void undoneIs(Net net, int left, int limit) {
        Check.same("undo", left, net.undo());
        Check.same("turnLimit", limit, net.turnLimit());
    }

    /** "Throws IllegalStateException if no change can be undone" */
    private static void emptyHistory() {
        Net net = new Net();
        Check.refuses("nothing has changed", STATE, net, net::undo);
        net.setTurnLimit(5);
        undoneIs(net, 0, 10);
        Check.refuses("it was undone", STATE, net, net::undo);
        net.setTurnLimit(6);
        undoneIs(net, 0, 10);
        Check.refuses("it was undone", STATE, net, net::undo);
    }

    private static Net netOfLimits(int changes) {
        Net net = new Net();
        for (int i = 1; i <= changes; i++) {
            net.setTurnLimit(10 + i);
        }
        return net;
    }

    /** "The 8 latest changes can be undone.", "Returns the number of changes that can still be undone." */
    private static void latestEight(int changes) {
        Net net = netOfLimits(changes);
        int kept = Math.min(changes, 8);
        for (int i = 1; i <= kept; i++) {
            undoneIs(net, kept - i, 10 + changes - i);
        }
        Check.refuses("no other", STATE, net, net::undo);
        Check.same("turnLimit", 10 + changes - kept, net.turnLimit());
    }

    /** "Undoes the latest change that was not undone." */
    private static void undoneAndChangedAgain(int changes) {
        for (int undone = 1; undone <= Math.min(changes, 8); undone++) {
            Net net = netOfLimits(changes);
            for (int i = 0; i < undone; i++) {
                net.undo();
            }
            net.setTurnLimit(60);
            int left = Math.min(changes, 8) - undone;
            undoneIs(net, left, 10 + changes - undone);
            for (int i = 1; i <= left; i++) {
                undoneIs(net, left - i, 10 + changes - undone - i);
            }
            Check.refuses("no other", STATE, net, net::undo);
        }
    }

    private static void oldestIsDropped() {
        Net net = new Net();
        net.addStation('A', 0, 0, 0, 1, 0);
        for (int i = 0; i < 7; i++) {
            net.pass(1);
        }
        Check.same("it is the eighth", "7", Check.outcome(net.twin()::undo));
        net.pass(1);
        for (int i = 7; i >= 0; i--) {
            Check.same("undo", i, net.undo());
        }
        Check.same("time", 0, net.time());
        Check.refuses("the ninth", STATE, net, net::undo);
        Check.same("the station stays", 1, net.stations());
    }

    /** "A change is a successful call of addStation, move, .. or run." */
    private static void everyChangeCountsOnce() {
        Net net = new Net();
        int counted = 0;
        net.addStation('A', 0, 0, 0, 1, 0);
        counts(net, ++counted);
        net.move(0, 1, 1);
        counts(net, ++counted);
        net.setPower(0, 9);
        counts(net, ++counted);
        net.tune(0, 9);
        counts(net, ++counted);
        net.request(0);
        counts(net, ++counted);
        net.setTurnLimit(5);
        counts(net, ++counted);
        net.pass(60);
        counts(net, ++counted);
        Check.run(net, "wait;wait;wait;call 0");
        counts(net, ++counted);
        Net line = Nets.line(2);
        counts(line, 4);
        line.cancel(1);
        counts(line, 5);
        line.release(0);
        counts(line, 6);
    }

    /** That so many changes can be undone, told by a twin. */
    private static void counts(Net net, int changes) {
        Check.same("changes", String.valueOf(changes - 1), Check.outcome(net.twin()::undo));
    }

    private static void refusedCallsAreNoChanges() {
        Net net = Nets.line(3);
        net.cancel(2);
        counts(net, 7);
        Check.outcome(() -> net.addStation('A', 0, 0, 0, 1, 0));
        Check.outcome(() -> net.addStation('a', 0, 0, 0, 1, 0));
        Check.outcome(() -> net.move(3, 0, 0));
        Check.outcome(() -> net.move(0, 100, 0));
        Check.outcome(() -> net.setPower(3, 1));
        Check.outcome(() -> net.setPower(0, 0));
        Check.outcome(() -> net.tune(3, 1));
        Check.outcome(() -> net.tune(2, 10));
        Check.outcome(() -> net.tune(0, 1));
        Check.outcome(() -> net.request(0));
        Check.outcome(() -> net.release(1));
        Check.outcome(() -> net.cancel(0));
        Check.outcome(() -> net.setTurnLimit(61));
        Check.outcome(() -> net.pass(0));
        Check.outcome(net::restore);
        counts(net, 7);
        net.undo();
        Check.same("the latest change", true, net.isWaiting(2));
    }

    private static void failedProgramsAreNoChanges() {
        Net net = new Net();
        Check.outcome(() -> Check.run(net, "wait;x"));
        Check.outcome(() -> Check.run(net, "wait;call 0"));
        Check.refuses("no change", STATE, net, net::undo);
        net.pass(5);
        Check.outcome(() -> Check.run(net, "wait;x"));
        Check.outcome(() -> Check.run(net, "wait;call 0"));
        counts(net, 1);
        net.undo();
        Check.same("time", 0, net.time());
    }

    private static void whatElseIsNoChange() {
        Net net = Nets.line(2);
        counts(net, 4);
        net.save();
        net.type('w');
        net.writeStation(0);
        net.writeChannel(3);
        net.isConsistent();
        net.minutesUntilTurnBySimulation(1);
        net.hops(0, 1);
        counts(net, 4);
    }

    /** "everything except the program buffer, the error position, the failed command and the output" */
    private static void whatIsNotUndone() {
        Net net = new Net();
        net.addStation('A', 0, 0, 0, 1, 0);
        net.pass(1);
        Check.outcome(() -> Check.run(net, "waix"));
        Check.outcome(() -> Check.run(net, "wait;over 0"));
        net.writeStation(0);
        Check.type(net, "wait");
        net.undo();
        net.undo();
        Check.same("stations", 0, net.stations());
        Check.same("errorPosition", 3, net.errorPosition());
        Check.same("failedCommand", 1, net.failedCommand());
        Check.same("line", "A0@0,0#0", net.output());
        Check.same("buffer", 5, net.type(' '));
        Check.same("buffer", 6, net.type('7'));
        Check.same("run", 1, net.run());
        Check.same("time", 7, net.time());
    }

    private static void changesThatChangeNothing() {
        Net net = Nets.crowd(1);
        net.move(0, 50, 50);
        counts(net, 2);
        net.setPower(0, 1);
        counts(net, 3);
        net.tune(0, 3);
        counts(net, 4);
        net.setTurnLimit(10);
        counts(net, 5);
        Check.run(net, "limit 10;tune 0=3");
        counts(net, 6);
    }

    private static void undoOfEachChange() {
        for (int i = 0; i < 11; i++) {
            Net net = Nets.busy();
            Check.outcome(net::run);
            String before = net.state();
            change(net, i);
            Check.same("changed by " + i, false, before.equals(net.state()));
            Check.same("undo of " + i, 7, net.undo());
            Check.same("undone " + i, before, net.state());
        }
    }

    private static void change(Net net, int number) {
        switch (number) {
            case 0 -> net.move(0, 99, 0);
            case 1 -> net.setPower(7, 99);
            case 2 -> net.tune(7, 3);
            case 3 -> net.request(5);
            case 4 -> net.request(7);
            case 5 -> net.release(0);
            case 6 -> net.cancel(2);
            case 7 -> net.cancel(1);
            case 8 -> net.setTurnLimit(1);
            case 9 -> net.pass(60);
            default -> Check.run(net, "cancel 1;over 0;tune 7=3;call 7;wait 9;limit 1;wait");
        }
    }

    private static void undoOfFullLog() {
        Net net = Nets.crowd(1);
        for (int i = 0; i < 16; i++) {
            net.request(0);
            net.pass(i + 1);
            Check.outcome(() -> net.release(0));
        }
        Check.same("logLength", 16, net.logLength());
        Check.same("oldest", 0, net.logBegin(0));
        String full = net.state();
        net.request(0);
        net.release(0);
        Check.same("the oldest is dropped", 1, net.logBegin(0));
        net.undo();
        net.undo();
        Check.same("the oldest is there again", 0, net.logBegin(0));
        Check.same("undone", full, net.state());
    }

    private static void undoToTheEmptyNet() {
        Net net = new Net();
        String empty = net.state();
        for (int i = 0; i < 8; i++) {
            net.addStation('A', i, 0, 0, 1, 0);
        }
        for (int i = 7; i >= 0; i--) {
            Check.same("undo", i, net.undo());
            Check.same("stations", i, net.stations());
        }
        Check.same("empty", empty, net.state());
        Check.same("from the first number on", 0, net.addStation('A', 5, 0, 0, 1, 0));
    }

    /** "Throws IllegalStateException if no state was saved" */
    private static void nothingWasSaved() {
        Net net = new Net();
        Check.refuses("a new net", STATE, net, net::restore);
        Net busy = Nets.line(8);
        Check.refuses("a full net", STATE, busy, busy::restore);
        busy.undo();
        Check.refuses("undoing saves nothing", STATE, busy, busy::restore);
    }

    /** "Returns the number of stations.": 0 to 8 */
    private static void saveFromNoneToEight() {
        for (int count = 0; count <= 8; count++) {
            Net net = Nets.line(count);
            String saved = net.state();
            Check.same("save", count, net.save());
            Check.same("saving changes nothing", saved, net.state());
            net.pass(60);
            Check.outcome(() -> net.addStation('B', 0, 0, 0, 1, 0));
            Check.same("restore", count, net.restore());
            Check.same("restored", saved, net.state());
            Check.same("stations", count, net.stations());
        }
    }

    /** "Saves the state in place of the state that was saved before." */
    private static void saveReplaces() {
        Net net = Nets.crowd(2);
        net.save();
        net.addStation('B', 0, 0, 0, 1, 0);
        Check.same("save", 3, net.save());
        net.addStation('C', 0, 0, 0, 1, 0);
        Check.same("restore", 3, net.restore());
        Check.same("restore", 3, net.restore());
        Check.refuses("the first one cannot be reached", STATE, net, net::undo);
    }

    /** "which stays saved" */
    private static void restoreStaysSaved() {
        Net net = Nets.line(3);
        net.pass(4);
        net.save();
        String saved = net.state();
        for (int i = 1; i <= 3; i++) {
            net.pass(7 * i);
            net.move(0, i, i);
            Check.outcome(() -> net.cancel(2));
            Check.same("restore", 3, net.restore());
            Check.same("restored", saved, net.state());
        }
    }

    /** "Afterwards no change can be undone." */
    private static void restoreClearsTheHistory() {
        for (int changes = 0; changes <= 9; changes++) {
            Net net = netOfLimits(changes);
            net.save();
            net.restore();
            Check.refuses("undo", STATE, net, net::undo);
            net.setTurnLimit(9);
            undoneIs(net, 0, 10 + changes);
            Check.refuses("undo", STATE, net, net::undo);
        }
    }

    private static void historyAfterRestore() {
        Net net = netOfLimits(5);
        net.save();
        net.restore();
        for (int i = 1; i <= 9; i++) {
            net.setTurnLimit(20 + i);
        }
        for (int i = 1; i <= 8; i++) {
            undoneIs(net, 8 - i, 29 - i);
        }
        Check.refuses("undo", STATE, net, net::undo);
        Net unsaved = netOfLimits(3);
        Check.refuses("restore", STATE, unsaved, unsaved::restore);
        undoneIs(unsaved, 2, 12);
    }

    private static void savedStateIsNotTheNet() {
        Net net = Nets.line(3);
        net.save();
        net.pass(3);
        Check.same("changes before saving can be undone", 6, net.undo());
        Check.same("they are six", 5, net.undo());
        Check.same("isWaiting", false, net.isWaiting(2));
        Check.same("restore", 3, net.restore());
        Check.same("undoing does not reach what was saved", true, net.isWaiting(2));
    }

    private static void whatIsNotRestored() {
        Net net = new Net();
        net.save();
        net.addStation('A', 0, 0, 0, 1, 0);
        Check.outcome(() -> Check.run(net, "waix"));
        Check.outcome(() -> Check.run(net, "wait;over 0"));
        net.writeStation(0);
        Check.type(net, "wait");
        Check.same("restore", 0, net.restore());
        Check.same("errorPosition", 3, net.errorPosition());
        Check.same("failedCommand", 1, net.failedCommand());
        Check.same("line", "A0@0,0#0", net.output());
        Check.same("buffer", 5, net.type(' '));
        Check.same("buffer", 6, net.type('7'));
        Check.same("run", 1, net.run());
        Check.same("time", 7, net.time());
    }
}

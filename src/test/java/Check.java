import java.util.Objects;

/** What the tests share: due answers, due refusals, programs. */
final class Check {
    interface Call {
        Object answer();
    }

    private static int wrong = 0;

    private Check() {
    }

    static void same(String what, Object due, Object got) {
        if (!Objects.equals(due, got)) {
            wrong++;
            System.out.println(what + " answered " + got + ", due is " + due);
        }
    }

    /** A refused call throws exactly the due class, by the net's own throw, and changes nothing. */
    static void refuses(String what, Class<?> due, Net net, Call call) {
        String before = net.whole();
        int changes = net.countChanges();
        same(what, "throws " + due.getName(), outcome(call));
        same(what + ": what is seen afterwards", before, net.wholeWithLatest(changes));
        net.forgetAllBut(changes);
    }

    /** A call that only tells something answers what is due, and changes nothing. */
    static void tells(String what, Object due, Net net, Call call) {
        String before = net.whole();
        int changes = net.countChanges();
        same(what, String.valueOf(due), outcome(call));
        same(what + ": what is seen afterwards", before, net.wholeWithLatest(changes));
    }

    static String outcome(Call call) {
        try {
            return String.valueOf(call.answer());
        } catch (RuntimeException e) {
            boolean own = e.getStackTrace().length > 0
                    && e.getStackTrace()[0].getClassName().startsWith("RadioNet")
                    && !"/ by zero".equals(e.getMessage());
            return "throws " + e.getClass().getName() + (own ? "" : " of the machine");
        }
    }

    static void end() {
        System.out.println(wrong == 0 ? "all answers are as due" : wrong + " answers are not as due");
        if (wrong != 0) {
            System.exit(1);
        }
    }

    static void type(Net net, String text) {
        for (int i = 0; i < text.length(); i++) {
            net.type(text.charAt(i));
        }
    }

    /** Types a text and runs it. */
    static int run(Net net, String text) {
        type(net, text);
        return net.run();
    }

    /** The text is no program: it is refused, the buffer is empty then, and the position recorded. */
    static void refusesText(Net net, String text, int errorPosition) {
        String before = net.state();
        String failed = outcome(net.twin()::failedCommand);
        type(net, text);
        same("run of '" + text + "'", "throws java.lang.IllegalArgumentException", outcome(net::run));
        same("errorPosition of '" + text + "'", errorPosition, net.errorPosition());
        same("failedCommand after '" + text + "'", failed, outcome(net::failedCommand));
        unchangedBut(net, text, before);
    }

    /** A command of the program fails: nothing is executed, and the command recorded. */
    static void failsAt(Net net, String text, int command) {
        String before = net.state();
        String error = outcome(net.twin()::errorPosition);
        type(net, text);
        same("run of '" + text + "'", "throws java.lang.UnsupportedOperationException",
                outcome(net::run));
        same("failedCommand of '" + text + "'", command, net.failedCommand());
        same("errorPosition after '" + text + "'", error, outcome(net::errorPosition));
        unchangedBut(net, text, before);
    }

    private static void unchangedBut(Net net, String text, String before) {
        same("state after '" + text + "'", before, net.state());
        same("the empty buffer after '" + text + "'", 1, net.twin().type(' '));
    }
}

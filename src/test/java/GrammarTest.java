import java.util.regex.Matcher;
import java.util.regex.Pattern;

/** Promise 47: which texts are programs, and the error positions of the others, against the grammar. */
public final class GrammarTest {
    private static final String NUMBER = "[0-9][0-9]?";
    private static final String COMMAND = ("(station [A-Z][0-9] N,N N [0-9]|move [0-9] N,N|power [0-9]=N"
            + "|tune [0-9]=[0-9]|call [0-9]|over [0-9]|cancel [0-9]|limit N|wait( N)?)")
            .replace("N", NUMBER);
    private static final Pattern PROGRAM = Pattern.compile(COMMAND + "(;" + COMMAND + ")*");

    private static final String[] PROGRAMS = {
        "station A0 0,0 1 0", "station Z9 99,99 99 9", "station K7 10,4 20 3", "move 0 0,0",
        "move 9 99,99", "power 0=1", "power 9=99", "tune 0=0", "tune 9=9", "call 0", "call 9", "over 0",
        "over 9", "cancel 0", "cancel 9", "limit 0", "limit 60", "limit 99", "wait", "wait 1", "wait 60",
        "wait;wait", "wait 5;wait;wait 12", "call 1;over 1", "cancel 2;call 3",
        "limit 1;station B5 7,13 50 2", "move 3 1,12;power 4=5;tune 5=6", "wait;call 7;limit 10;over 8",
    };
    // The neighbours of the characters that the grammar names, and some that no command has.
    private static final String CHARACTERS = "/09:@AZ[`az{,;= ~w\u0000\u0100\u0130\u0661\uFF21\uFFFF";

    public static void main(String[] args) {
        for (String program : PROGRAMS) {
            check(program);
            for (int i = 0; i <= program.length(); i++) {
                check(program.substring(0, i));
                for (char character : CHARACTERS.toCharArray()) {
                    check(program.substring(0, i) + character);
                    check(program.substring(0, i) + character + program.substring(i));
                }
            }
            for (int i = 0; i < program.length(); i++) {
                check(program.substring(0, i) + program.substring(i + 1));
                for (char character : CHARACTERS.toCharArray()) {
                    check(program.substring(0, i) + character + program.substring(i + 1));
                }
                check(program.substring(0, i) + (char) (program.charAt(i) - 1) + program.substring(i + 1));
                check(program.substring(0, i) + (char) (program.charAt(i) + 1) + program.substring(i + 1));
                check(program.substring(0, i) + (char) (program.charAt(i) ^ 32) + program.substring(i + 1));
            }
        }
        Check.end();
    }

    private static void check(String text) {
        int due = errorPosition(text);
        RadioNet net = new RadioNet();
        for (int i = 0; i < text.length(); i++) {
            net.type(text.charAt(i));
        }
        String got = Check.outcome(net::run);
        if (due < 0) {
            String failed = "throws java.lang.UnsupportedOperationException";
            String commands = String.valueOf(text.split(";").length);
            Check.same("run of '" + text + "'", true, got.equals(commands) || got.equals(failed));
            Check.same("errorPosition", "throws java.util.NoSuchElementException",
                    Check.outcome(net::errorPosition));
        } else {
            Check.same("run of '" + text + "'", "throws java.lang.IllegalArgumentException", got);
            Check.same("errorPosition of '" + text + "'", due, net.errorPosition());
        }
    }

    /** "the index of the first character at which no program can continue, or the length", or -1 */
    static int errorPosition(String text) {
        for (int i = 1; i <= text.length(); i++) {
            Matcher beginning = PROGRAM.matcher(text.substring(0, i));
            if (!beginning.matches() && !beginning.hitEnd()) {
                return i - 1;
            }
        }
        return PROGRAM.matcher(text).matches() ? -1 : text.length();
    }
}

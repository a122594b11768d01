/**
 * Every short line made of a few signs, behind some beginnings, and every program of three variables
 * made of a few equations, on the class and on the model.
 */
public final class SmallWorldsTest extends Calls {
    private static final String SIGNS = "1ap+!?PWC";
    private static final String[] EQUATIONS = {null, "1", "p", "a", "b", "Pc", "Cb1", "W1a", "Cac"};

    public static void main(String[] args) {
        // The lines at every level, so that the deepest are reached from all of them.
        for (String before : new String[] {"", "!", "+1", "!!!", "!!!!", "!!!!!", "+1!!P", "?1W!P", "CaCb!!", "WWWWW", "?1?1?1?1?1"}) {
            linesAfter(before, 4);
        }
        programs();
        Due.end();
    }

    private static void linesAfter(String before, int more) {
        line(before);
        for (int i = 0; i < SIGNS.length() && more > 0 && !Due.anyWrong(); i++) {
            linesAfter(before + SIGNS.charAt(i), more - 1);
        }
    }

    private static void line(String text) {
        FlowEquations x = new FlowEquations();
        HistoryModel y = new HistoryModel();
        write(x, text);
        for (char c : text.toCharArray()) {
            y.type(c);
        }
        due("define of " + text, x.define(0), y.define(0));
        due("bad place of " + text, x.info(1), y.info(1));
    }

    /** Three variables with every choice of clocks and of a few equations. */
    private static void programs() {
        int choices = EQUATIONS.length * 4;
        for (int a = 0; a < choices; a++) {
            for (int b = 0; b < choices; b++) {
                for (int c = 0; c < choices && !Due.anyWrong(); c++) {
                    program(a, b, c);
                }
            }
        }
    }

    private static void program(int... chosen) {
        FlowEquations x = new FlowEquations();
        HistoryModel y = new HistoryModel();
        StringBuilder told = new StringBuilder();
        for (int v = 0; v < chosen.length; v++) {
            int clock = chosen[v] % 4 - 1;
            String text = EQUATIONS[chosen[v] / 4];
            told.append(' ').append((char) ('a' + v)).append(':').append(text).append('@').append(clock);
            x.clock(v, clock);
            y.clock(v, clock);
            if (text != null) {
                x.types(eight(text));
                y.types(eight(text));
                x.define(v);
                y.define(v);
            }
        }
        due("check of" + told, x.check(), y.check());
        for (int instant = 1; instant <= 3; instant++) {
            x.input(0, instant % 2);
            y.input(0, instant % 2);
            due("step of" + told, x.step(1), y.step(1));
            for (int v = 0; v < chosen.length; v++) {
                due("value " + v + " of" + told, x.value(v), y.value(v));
                due("memory " + v + " of" + told, x.memory(v, 0), y.memory(v, 0));
            }
            due("present of" + told, x.info(6), y.info(6));
        }
    }
}

/** What the tests say often: making equations, and asking for what is due. */
abstract class Calls {
    static final long NONE = FlowEquations.NONE;
    static final int REFUSED = FlowEquations.REFUSED;
    static final int FULL = FlowEquations.FULL;
    static final int SYNTAX = FlowEquations.SYNTAX;
    static final int STATE = FlowEquations.STATE;
    static final int DONE = FlowEquations.DONE;
    static final int BASE = -1;
    static final int LEAST = Integer.MIN_VALUE;
    static final int GREATEST = Integer.MAX_VALUE;
    static final String CHARACTERS = "0123456789abcdefghpqrs+-*<=&!?PFWC";
    static final int[] NO_VARIABLES = {-1, 8, 9, 100, LEAST, GREATEST};

    static void due(String call, long got, long want) {
        Due.due(call, got, want);
    }

    /** The sentence of the document that the next answers are about. */
    static void sentence(String words) {
        Due.about(words);
    }

    static long eight(String text) {
        long number = 0;
        for (int i = 0; i < text.length(); i++) {
            number = number << 8 | text.charAt(i);
        }
        return number;
    }

    /** Types by eights, as types takes them. */
    static void write(FlowEquations x, String text) {
        for (int from = 0; from < text.length(); from += 8) {
            String some = text.substring(from, Math.min(text.length(), from + 8));
            x.types(eight(some));
        }
    }

    static int define(FlowEquations x, char name, String text) {
        write(x, text);
        return x.define(name - 'a');
    }

    /** Each text is a name, a colon and an equation; behind an @ stands the name its clock is ON. */
    static FlowEquations make(String... texts) {
        FlowEquations x = new FlowEquations();
        for (String text : texts) {
            char name = text.charAt(0);
            int at = text.indexOf('@');
            String equation = at < 0 ? text.substring(2) : text.substring(2, at);
            if (define(x, name, equation) < 0) {
                due("define of " + text, -1, 1);
            }
            if (at >= 0) {
                due("clock of " + text, x.clock(name - 'a', text.charAt(at + 1) - 'a'), DONE);
            }
        }
        return x;
    }

    static FlowEquations ready(String... texts) {
        FlowEquations x = make(texts);
        due("check of " + String.join(" ", texts), x.check(), texts.length);
        return x;
    }

    /** The values of a variable at the instants from the first; null stands for NONE. */
    static void flow(FlowEquations x, char name, Integer... values) {
        x.check();
        for (int i = 0; i < values.length; i++) {
            x.step(1);
            due("value of " + name + " at instant " + (i + 1), x.value(name - 'a'), values[i] == null ? NONE : values[i]);
        }
    }

    /** What a P or C holds after each of the instants from the first. */
    static void memories(FlowEquations x, char name, int place, long... wanted) {
        x.check();
        for (int i = 0; i < wanted.length; i++) {
            x.step(1);
            due("memory of " + name + " at " + place + " after instant " + (i + 1), x.memory(name - 'a', place), wanted[i]);
        }
    }

    static void infos(String when, FlowEquations x, long... wanted) {
        for (int what = 0; what < wanted.length; what++) {
            due(when + ": info(" + what + ")", x.info(what), wanted[what]);
        }
    }

    static void depth(String line, int depth) {
        FlowEquations x = new FlowEquations();
        due("define of " + line, define(x, 'h', line), depth);
        due("bad place of " + line, x.info(1), -1);
        due("characters of " + line, x.info(5), line.length());
    }

    static void badPlace(String line, int place) {
        FlowEquations x = new FlowEquations();
        write(x, line);
        due("define of " + line, x.define(7), SYNTAX);
        due("bad place of " + line, x.info(1), place);
        due("line after " + line, x.info(0), 0);
        due("equations after " + line, x.info(2), 0);
    }

    static void fault(int want, String... texts) {
        FlowEquations x = make(texts);
        due("check of " + String.join(" ", texts), x.check(), want);
        due("ready", x.info(3), 0);
        due("step", x.step(1), STATE);
        due("value", x.value(texts[0].charAt(0) - 'a'), NONE);
    }

    /** The value of an equation on the inputs p and q at the first instant. */
    static void term(String equation, int p, int q, long want) {
        FlowEquations x = ready("h:" + equation);
        x.input(0, p);
        x.input(1, q);
        x.step(1);
        due("value of " + equation + " at p = " + p + ", q = " + q, x.value(7), want);
    }
}

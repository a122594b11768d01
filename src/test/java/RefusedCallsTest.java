/**
 * "A refused call is one that answers below 0; it changes nothing but what is said." Two objects
 * are brought to the same state, one is given the refused call, and from then on both must answer
 * the same.
 */
public final class RefusedCallsTest extends Calls {
    private interface Call {
        long on(FlowEquations x);
    }

    private interface State {
        FlowEquations make();
    }

    private static final State[] STATES = {
        FlowEquations::new, RefusedCallsTest::typed, RefusedCallsTest::full, RefusedCallsTest::unready, RefusedCallsTest::faulty,
        RefusedCallsTest::checked, RefusedCallsTest::running};

    public static void main(String[] args) {
        for (State state : STATES) {
            refusedTypes(state);
            refusedDefinitions(state);
            refusedNumbers(state);
        }
        types();
        fullLines();
        syntax();
        notReady();
        faults();
        Due.end();
    }

    // The states

    private static FlowEquations typed() {
        FlowEquations x = new FlowEquations();
        write(x, "?q");
        return x;
    }

    private static FlowEquations full() {
        FlowEquations x = new FlowEquations();
        write(x, "+?+11+11+11?+11+11+1+1!r");
        return x;
    }

    private static FlowEquations unready() {
        FlowEquations x = make("a:!Pa", "b:F1+1Pb", "c:PWba@a", "d:Cac", "e:?p-qr*qs");
        x.clock(7, 6);
        define(x, 'a', "+1+");
        define(x, 'a', "!Pa");
        for (int k = 0; k < 4; k++) {
            x.input(k, 3 * k - 4);
        }
        return x;
    }

    private static FlowEquations faulty() {
        FlowEquations x = unready();
        define(x, 'f', "f");
        x.check();
        write(x, "1");
        return x;
    }

    private static FlowEquations checked() {
        FlowEquations x = unready();
        x.check();
        write(x, "!p");
        return x;
    }

    private static FlowEquations running() {
        FlowEquations x = checked();
        x.step(5);
        return x;
    }

    // Looking at two objects

    private static void same(String call, long left, long right) {
        due(call, left, right);
    }

    private static void sameAnswers(String when, FlowEquations x, FlowEquations y) {
        for (int what = 0; what <= 6; what++) {
            same(when + ": info(" + what + ")", x.info(what), y.info(what));
        }
        for (int v = 0; v < 8; v++) {
            same(when + ": value(" + v + ")", x.value(v), y.value(v));
            same(when + ": present(" + v + ")", x.present(v), y.present(v));
        }
        for (int v = 0; v < 5; v++) {
            for (int i = 0; i < 5; i++) {
                same(when + ": memory(" + v + ", " + i + ")", x.memory(v, i), y.memory(v, i));
            }
        }
    }

    /** Calls that bring to light what can't be asked for: the line's text, clocks and inputs. */
    private static void sameFromHereOn(String when, FlowEquations x, FlowEquations y) {
        sameAnswers(when, x, y);
        same(when + ": step on", x.step(1), y.step(1));
        sameAnswers(when + ", step on", x, y);
        same(when + ": define", x.define(6), y.define(6));
        same(when + ": bad place", x.info(1), y.info(1));
        same(when + ": check", x.check(), y.check());
        same(when + ": step", x.step(2), y.step(2));
        sameAnswers(when + ", define and step", x, y);
        // An input FITS the BASE alone, so the check tells of a clock that isn't; drop takes it away.
        for (int v = 0; v < 8; v++) {
            char name = (char) ('a' + v);
            same(when + ": define of " + name, define(x, name, "p"), define(y, name, "p"));
            same(when + ": check of " + name, x.check(), y.check());
            same(when + ": drop of " + name, x.drop(v), y.drop(v));
        }
        for (int k = 0; k < 4; k++) {
            String input = "pqrs".substring(k, k + 1);
            same(when + ": define as " + input, define(x, 'a', input), define(y, 'a', input));
            same(when + ": check of " + input, x.check(), y.check());
            same(when + ": step of " + input, x.step(1), y.step(1));
            same(when + ": value of " + input, x.value(0), y.value(0));
        }
    }

    private static void changesNothing(State state, String name, Call call, long answer) {
        FlowEquations x = state.make();
        due(name, call.on(x), answer);
        sameFromHereOn("after " + name, x, state.make());
    }

    // The refused calls

    private static void refusedTypes(State state) {
        for (int c : new int[] {-1, 0, ' ', 'i', 'o', 't', 'Q', '1' + 256, LEAST, GREATEST}) {
            changesNothing(state, "type(" + c + ")", x -> x.type(c), REFUSED);
        }
        for (long eight : new long[] {0x69L, 0x6931313131313131L, 0x80L << 56, -1, Long.MIN_VALUE, Long.MAX_VALUE}) {
            changesNothing(state, "types(" + eight + ")", x -> x.types(eight), REFUSED);
        }
    }

    private static void refusedDefinitions(State state) {
        for (int v : NO_VARIABLES) {
            changesNothing(state, "define(" + v + ")", x -> x.define(v), REFUSED);
            changesNothing(state, "drop(" + v + ")", x -> x.drop(v), REFUSED);
            changesNothing(state, "clock(" + v + ", 0)", x -> x.clock(v, 0), REFUSED);
            changesNothing(state, "clock(" + v + ", -1)", x -> x.clock(v, BASE), REFUSED);
            if (v != BASE) {
                changesNothing(state, "clock(0, " + v + ")", x -> x.clock(0, v), REFUSED);
                changesNothing(state, "clock(7, " + v + ")", x -> x.clock(7, v), REFUSED);
            }
        }
        changesNothing(state, "clock(0, -2)", x -> x.clock(0, -2), REFUSED);
        changesNothing(state, "drop of one that has none", x -> x.drop(7), REFUSED);
        changesNothing(state, "drop of one that has none", x -> x.drop(6), REFUSED);
    }

    private static void refusedNumbers(State state) {
        for (int k : new int[] {-1, 4, 5, LEAST, GREATEST}) {
            changesNothing(state, "input(" + k + ", 77)", x -> x.input(k, 77), REFUSED);
        }
        for (int n : new int[] {0, -1, 21, LEAST, GREATEST}) {
            changesNothing(state, "step(" + n + ")", x -> x.step(n), REFUSED);
        }
        for (int v : NO_VARIABLES) {
            changesNothing(state, "value(" + v + ")", x -> x.value(v), NONE);
            changesNothing(state, "present(" + v + ")", x -> x.present(v), REFUSED);
            changesNothing(state, "memory(" + v + ", 0)", x -> x.memory(v, 0), NONE);
            changesNothing(state, "memory(0, " + (v + 100) + ")", x -> x.memory(0, v + 100), NONE);
        }
        for (int what : new int[] {-1, 7, LEAST, GREATEST}) {
            changesNothing(state, "info(" + what + ")", x -> x.info(what), REFUSED);
        }
    }

    /** What is said of types is that those before the first that is refused stay. */
    private static void types() {
        FlowEquations x = running();
        FlowEquations y = running();
        due("types", x.types(eight("12i34")), REFUSED);
        due("types of those before", y.types(eight("12")), 4);
        sameFromHereOn("after types REFUSED", x, y);
        x = full();
        y = full();
        due("types to a full line", x.types(eight("12")), FULL);
        sameFromHereOn("after types FULL", x, y);
        x = new FlowEquations();
        y = new FlowEquations();
        write(x, "+?+11+11+11?+11+11+1+");
        write(y, "+?+11+11+11?+11+11+1+1!r");
        due("types over the end", x.types(eight("1!rqi")), FULL);
        sameFromHereOn("after types FULL over the end", x, y);
    }

    private static void fullLines() {
        for (char c : CHARACTERS.toCharArray()) {
            changesNothing(RefusedCallsTest::full, "type to a full line", x -> x.type(c), FULL);
        }
    }

    /** What is said of a SYNTAX is that the line is empty and the latest bad place another. */
    private static void syntax() {
        for (String line : new String[] {"", "+", "11", "!!!!!!1", "Cp1", "W1q", "?+++1111?1?1++11+11?111?"}) {
            for (int v = 0; v < 8; v++) {
                FlowEquations x = unready();
                FlowEquations y = unready();
                // h has no equation, so a bad line for it can spoil none.
                due("define of " + line, define(x, (char) ('a' + v), line), SYNTAX);
                due("define of " + line, define(y, 'h', line), SYNTAX);
                sameFromHereOn("after SYNTAX", x, y);
            }
            FlowEquations x = unready();
            FlowEquations y = unready();
            due("define of " + line, define(y, 'a', line), SYNTAX);
            due("define of " + line, define(x, 'a', line), SYNTAX);
            x.check();
            y.check();
            x.step(4);
            y.step(4);
            due("define of " + line, define(x, 'b', line), SYNTAX);
            sameFromHereOn("after SYNTAX while running", x, y);
        }
    }

    private static void notReady() {
        for (State state : new State[] {FlowEquations::new, RefusedCallsTest::typed, RefusedCallsTest::unready, RefusedCallsTest::faulty}) {
            for (int n : new int[] {1, 2, 20}) {
                changesNothing(state, "step(" + n + ") when not ready", x -> x.step(n), STATE);
            }
        }
    }

    private static void faults() {
        changesNothing(RefusedCallsTest::faulty, "check again", FlowEquations::check, -405);
        FlowEquations x = unready();
        FlowEquations y = unready();
        define(x, 'f', "g");
        define(y, 'f', "g");
        due("check with a fault", x.check(), -106);
        sameFromHereOn("after a check with a fault", x, y);
    }
}

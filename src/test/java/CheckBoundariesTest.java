/** Each sentence about THE CHECK and promises 5 to 8 that names a boundary case. */
public final class CheckBoundariesTest extends Calls {
    public static void main(String[] args) {
        faultsInTheirOrder();
        leastVariableIsTold();
        missingByClock();
        missingByName();
        ringOfClocks();
        ringIsLookedForWithEquationsAlone();
        digitFitsEveryClock();
        variableFitsItsOwnClock();
        inputFitsTheBase();
        operatorsFitIfTheirTermsDo();
        whenFits();
        currentFits();
        needsByClock();
        needsByName();
        needsOfNeeds();
        dropRange();
        dropLeavesTheClock();
        clockRange();
        inputRange();
        inputCountsFromNowOn();
        checkTellsTheFault();
        checkCountsEquations();
        checkStartsAnew();
        Due.end();
    }

    private static char name(int v) {
        return (char) ('a' + v);
    }

    /** What a check answers, and if the equations are READY after it. */
    private static void checked(FlowEquations x, int want) {
        due("check", x.check(), want);
        due("ready", x.info(3), want < 0 ? 0 : 1);
    }

    // The check

    private static void faultsInTheirOrder() {
        sentence("THE CHECK looks for faults in this order");
        // Each sort on a lesser variable than the sort before it, so that no other order answers so.
        FlowEquations x = make("a:a", "b:p@e", "c:1@c", "d:h", "e:1");
        checked(x, -107);
        define(x, 'd', "1");
        checked(x, -202);
        x.clock(2, BASE);
        checked(x, -301);
        x.clock(1, BASE);
        checked(x, -400);
        define(x, 'a', "Pa");
        checked(x, 5);
        // Each sort twice in one equation.
        fault(-107, "a:+ah@a");
        fault(-200, "a:+ap@a");
        fault(-300, "a:+ap@b", "b:1");
        fault(-400, "a:+ap");
    }

    private static void leastVariableIsTold() {
        sentence("the least variable with a fault of a sort being told");
        fault(-101, "a:+hb", "c:g@f");
        fault(-105, "a:+hg", "c:g@f");
        fault(-201, "a:1", "h:1@h", "b:1@c", "c:1@b", "d:1@d");
        fault(-302, "a:1", "h:p@a", "c:p@a", "e:a@a");
        fault(-403, "a:1", "h:h", "e:f", "f:e", "d:d");
        for (int v = 0; v < 8; v++) {
            for (int u = v + 1; u < 8; u++) {
                fault(-200 - v, name(u) + ":1@" + name(u), name(v) + ":1@" + name(v));
                fault(-400 - v, name(u) + ":" + name(u), name(v) + ":" + name(v));
            }
        }
    }

    private static void missingByClock() {
        sentence("a variable that the CLOCK of one with an EQUATION is ON .. has none: that variable");
        for (int c = 0; c < 8; c++) {
            fault(-100 - c, name(c == 0 ? 1 : 0) + ":1@" + name(c));
        }
        // The clock of a variable without an equation is no fault.
        FlowEquations x = make("a:1");
        x.clock(1, 2);
        x.clock(3, 3);
        x.clock(4, 5);
        x.clock(5, 4);
        checked(x, 1);
        define(x, 'b', "1");
        checked(x, -102);
        define(x, 'c', "1");
        checked(x, 3);
        x.drop(2);
        checked(x, -102);
        x.drop(1);
        checked(x, 1);
    }

    private static void missingByName() {
        sentence("or whose name stands in an EQUATION, has none: that variable");
        for (String equation : new String[] {"h", "Ph", "+1h", "?11h", "Fh1", "F1h", "W1h", "Wha", "Ch1", "Cah", "PPPPh", "PW1h", "PCh1",
            "&0h", "?1?1?1?1?111111h"}) {
            fault(-107, "a:1", "b:" + equation);
        }
        fault(-100, "h:a");
        // An input's name is none of a variable.
        checked(make("a:+p*q-rs"), 1);
    }

    private static void ringOfClocks() {
        sentence("whose CLOCK is ON itself, or ON one whose CLOCK is so, and so on back to itself");
        for (int size = 1; size <= 8; size++) {
            String[] ring = new String[size];
            for (int v = 0; v < size; v++) {
                ring[v] = name(v) + ":1@" + name((v + 1) % size);
            }
            fault(-200, ring);
            ring[size - 1] = name(size - 1) + ":1";
            checked(make(ring), size);
        }
        // One that leads to a ring is not on it.
        fault(-203, "a:1@d", "b:1@d", "c:1@d", "d:1@d");
        fault(-206, "a:1@b", "b:1@c", "c:1@d", "d:1@e", "e:1@f", "f:1@g", "g:1@h", "h:1@g");
        fault(-207, "a:1@b", "b:1@c", "c:1@d", "d:1@e", "e:1@f", "f:1@g", "g:1@h", "h:1@h");
    }

    private static void ringIsLookedForWithEquationsAlone() {
        sentence("2 a variable with an EQUATION");
        FlowEquations x = make("d:1");
        x.clock(0, 0);
        x.clock(1, 2);
        x.clock(2, 1);
        checked(x, 1);
        define(x, 'a', "1");
        checked(x, -200);
        x.drop(0);
        checked(x, 1);
        define(x, 'b', "1");
        checked(x, -102);
        define(x, 'c', "1");
        checked(x, -201);
    }

    private static void digitFitsEveryClock() {
        sentence("To FIT a CLOCK k: a digit does");
        for (int digit = 0; digit <= 9; digit++) {
            checked(make("a:1", "b:1@a", "c:" + digit, "d:" + digit + "@a", "e:" + digit + "@b"), 5);
        }
    }

    private static void variableFitsItsOwnClock() {
        sentence("a variable's name if that is its CLOCK");
        String[] clocks = {"", "@a", "@b", "@c"};
        for (int own = 0; own < 4; own++) {
            for (int other = 0; other < 4; other++) {
                FlowEquations x = make("a:1", "b:1", "c:1@a", "d:2" + clocks[own], "e:d" + clocks[other]);
                checked(x, own == other ? 5 : -304);
            }
        }
    }

    private static void inputFitsTheBase() {
        sentence("an input's name if k is the BASE");
        for (char input = 'p'; input <= 's'; input++) {
            checked(make("a:" + input), 1);
            fault(-301, "a:1", "b:" + input + "@a");
            checked(make("a:1", "b:W" + input + "a@a"), 2);
            fault(-301, "a:1", "b:Ca" + input);
        }
    }

    private static void operatorsFitIfTheirTermsDo() {
        sentence("+ - * < = & ! ? P F if the TERMS in it do");
        String[] forms = {"+_2", "+2_", "-_2", "-2_", "*_2", "*2_", "<_2", "<2_", "=_2", "=2_", "&_2", "&2_", "!_", "?_22", "?2_2", "?22_",
            "P_", "F_2", "F2_", "PP_", "!?22F2_"};
        for (String form : forms) {
            checked(make("a:1", "b:" + form.replace('_', 'p')), 2);
            checked(make("a:1", "b:1@a", "c:" + form.replace('_', 'b') + "@a"), 3);
            fault(-301, "a:1", "b:" + form.replace('_', 'p') + "@a");
            fault(-302, "a:1", "b:1@a", "c:" + form.replace('_', 'b'));
        }
    }

    private static void whenFits() {
        sentence("W t c if k is ON c and t FITS the CLOCK of c");
        checked(make("a:1", "b:Wpa@a"), 2);
        checked(make("a:1", "b:1@a", "c:Wbb@b"), 3);
        checked(make("a:1", "b:1@a", "c:WWpab@b"), 3);
        // k is the BASE, is ON another, or is ON one with the same values.
        fault(-301, "a:1", "b:Wpa");
        fault(-302, "a:1", "b:1", "c:Wpa@b");
        fault(-302, "a:1", "b:a", "c:W1a@b");
        // t FITS another clock: k itself, or one further up.
        fault(-302, "a:1", "b:1@a", "c:Wba@a");
        fault(-302, "a:1", "b:1@a", "c:Wpb@b");
        fault(-302, "a:1", "b:1@a", "c:Wab@b");
        fault(-301, "a:1", "b:WW1aa@a");
    }

    private static void currentFits() {
        sentence("C c t if k is the CLOCK of c and t FITS the CLOCK ON c");
        checked(make("a:1", "b:1@a", "c:Cab"), 3);
        checked(make("a:1", "b:1@a", "c:1@b", "d:Cbc@a"), 4);
        checked(make("a:1", "b:1@a", "c:1@b", "d:CaCbc"), 4);
        checked(make("a:1", "b:Ca1"), 2);
        // k is another than the clock of c: further up, c itself, or beside it.
        fault(-302, "a:1", "b:1@a", "c:Cb1");
        fault(-301, "a:1", "b:Ca1@a");
        fault(-303, "a:1", "b:1@a", "c:1", "d:Cb1@c");
        // t FITS another clock: k itself, one beside it, or one further down.
        fault(-301, "a:1", "b:Cap");
        fault(-302, "a:1", "b:1", "c:Cab");
        fault(-303, "a:1", "b:1@a", "c:1", "d:Ccb");
        fault(-303, "a:1", "b:1@a", "c:1@b", "d:Cac");
    }

    private static void needsByClock() {
        sentence("A variable NEEDS those that its CLOCK is ON");
        // a has no name in its equation, so it NEEDS itself by its clock alone.
        fault(-400, "a:1@b", "b:Cba");
        fault(-400, "a:1@c", "b:Cca", "c:b");
        fault(-400, "a:1@b", "b:1@c", "c:CcCba");
        // Names inside a P aren't NEEDED, but the clock is.
        fault(-400, "a:PWpb@b", "b:Cba");
        fault(-400, "a:Pa@b", "b:Cba");
        fault(-400, "a:b", "b:Ccd", "c:a", "d:PWac@c");
        checked(make("a:b", "b:PCcd", "c:a", "d:1@c"), 4);
        checked(make("a:Pb", "b:Cac", "c:1@a"), 3);
    }

    private static void needsByName() {
        sentence("and those whose names stand in its EQUATION outside every P");
        for (String form : new String[] {"_", "+_1", "+1_", "-_1", "*1_", "<_1", "=1_", "&_1", "!_", "?_11", "?1_1", "?11_", "F_1", "F1_",
            "C_1", "+P__", "+_P_", "?P_1_"}) {
            String own = form.replace('_', 'a');
            fault(-400, "a:" + own);
            checked(make("a:P" + own), 1);
            if (own.length() < 4) {
                checked(make("a:!P!" + own), 1);
            }
        }
        fault(-400, "a:Cbc", "b:1", "c:Wab@b");
        checked(make("a:Cbc", "b:1", "c:WPab@b"), 3);
        // The names of W and C are names, too: inside a P they aren't NEEDED.
        fault(-400, "a:b", "b:Ca1");
        checked(make("a:b", "b:PCa1"), 2);
        checked(make("a:1", "b:PWpa@a"), 2);
        // What follows a P's TERM is outside of it.
        fault(-400, "a:+P1a");
        fault(-400, "a:?PaPaa");
        fault(-400, "a:+PCb1a", "b:1");
    }

    private static void needsOfNeeds() {
        sentence("and what these NEED");
        for (int size = 1; size <= 8; size++) {
            String[] chain = new String[size];
            for (int v = 0; v < size; v++) {
                chain[v] = name(v) + ":" + name((v + 1) % size);
            }
            fault(-400, chain);
            for (int v = 0; v < size; v++) {
                String whole = chain[v];
                chain[v] = name(v) + ":P" + name((v + 1) % size);
                checked(make(chain), size);
                chain[v] = whole;
            }
        }
        // One that needs a ring is not on it.
        fault(-402, "a:b", "b:c", "c:d", "d:c");
        // Rings that go against the order of the names.
        fault(-400, "a:h", "h:g", "g:f", "f:e", "e:d", "d:c", "c:b", "b:a");
        fault(-400, "a:e", "e:b", "b:g", "g:c", "c:h", "h:d", "d:f", "f:a");
    }

    // Promises 5 to 8

    private static void dropRange() {
        sentence("drop: not 0 .. 7 or it has none: REFUSED");
        for (int v = 0; v < 8; v++) {
            FlowEquations x = new FlowEquations();
            due("drop of one that has none", x.drop(v), REFUSED);
            define(x, name(v), "1");
            due("drop", x.drop(v), DONE);
            due("equations", x.info(2), 0);
            due("characters", x.info(5), 0);
            due("drop again", x.drop(v), REFUSED);
            define(x, name(v), "1");
            due("drop of one that is defined again", x.drop(v), DONE);
        }
        FlowEquations all = make("a:1", "b:1", "c:1", "d:1", "e:1", "f:1", "g:1", "h:1");
        for (int v : NO_VARIABLES) {
            due("drop of no variable", all.drop(v), REFUSED);
        }
        due("equations", all.info(2), 8);
    }

    private static void dropLeavesTheClock() {
        sentence("drop: Its CLOCK stays");
        FlowEquations x = make("a:0", "b:1@a");
        x.drop(1);
        define(x, 'b', "2");
        checked(x, 2);
        x.step(1);
        due("value on the clock that stayed", x.value(1), NONE);
        // That of others on the dropped one stays, too.
        x.drop(0);
        checked(x, -100);
        define(x, 'a', "3");
        checked(x, 2);
        x.step(1);
        due("value on the clock that stayed", x.value(1), 2);
    }

    private static void clockRange() {
        sentence("The CLOCK of variable v (0 .. 7) becomes ON variable c (0 .. 7), or the BASE for c = -1: DONE; else REFUSED");
        int[] edges = {LEAST, -100, -3, -2, -1, 0, 3, 7, 8, 9, 100, GREATEST};
        for (int v : edges) {
            for (int c : edges) {
                boolean good = v >= 0 && v <= 7 && c >= -1 && c <= 7;
                due("clock(" + v + ", " + c + ")", new FlowEquations().clock(v, c), good ? DONE : REFUSED);
            }
        }
        for (int v = 0; v < 8; v++) {
            for (int c = 0; c < 8; c++) {
                FlowEquations x = make(name(v) + ":1");
                x.clock(v, c);
                checked(x, v == c ? -200 - v : -100 - c);
                x.clock(v, BASE);
                checked(x, 1);
            }
        }
    }

    private static void inputRange() {
        sentence("Input k (0 .. 3) becomes the value .. : DONE; else REFUSED");
        FlowEquations x = ready("a:p", "b:q", "c:r", "d:s");
        for (int k = 0; k < 4; k++) {
            due("input", x.input(k, 10 + k), DONE);
        }
        for (int k : new int[] {-1, -2, 4, 5, 7, 100, LEAST, GREATEST}) {
            due("input of none", x.input(k, 99), REFUSED);
        }
        x.step(1);
        for (int k = 0; k < 4; k++) {
            due("value", x.value(k), 10 + k);
        }
    }

    private static void inputCountsFromNowOn() {
        sentence("for the INSTANTS from now on");
        FlowEquations x = new FlowEquations();
        due("input before all", x.input(0, 5), DONE);
        define(x, 'a', "p");
        define(x, 'b', "Pp");
        x.check();
        x.step(2);
        due("value", x.value(0), 5);
        x.input(0, 6);
        x.input(0, 7);
        due("value at the latest instant", x.value(0), 5);
        due("what was then", x.memory(1, 0), 5);
        due("ready all the same", x.info(3), 1);
        due("instants go on", x.step(1), 3);
        due("value", x.value(0), 7);
        due("value before", x.value(1), 5);
        x.step(20);
        due("value at all later ones", x.value(1), 7);
        // It stays over a change of the equations and a check.
        define(x, 'c', "p");
        x.drop(1);
        x.check();
        x.step(1);
        due("value after a check", x.value(2), 7);
    }

    private static void checkTellsTheFault() {
        sentence("-100 * the sort of the fault (1 .. 4) - the variable, and not READY");
        for (int v = 0; v < 8; v++) {
            int other = v == 0 ? 1 : 0;
            fault(-100 - v, name(other) + ":" + name(v));
            fault(-200 - v, name(v) + ":1@" + name(v));
            fault(-300 - v, name(v) + ":p@" + name(other), name(other) + ":1");
            fault(-400 - v, name(v) + ":" + name(v));
        }
        FlowEquations x = ready("a:1");
        x.step(3);
        define(x, 'a', "a");
        checked(x, -400);
        infos("not ready", x, 0, -1, 1, 0, 0, 1, 0);
        due("step", x.step(1), STATE);
        checked(x, -400);
    }

    private static void checkCountsEquations() {
        sentence("else READY .. how many variables have EQUATIONS");
        FlowEquations x = new FlowEquations();
        checked(x, 0);
        for (int v = 0; v < 8; v++) {
            define(x, name(v), "1");
            checked(x, v + 1);
            define(x, name(v), "2");
            checked(x, v + 1);
        }
        for (int v = 0; v < 8; v++) {
            x.drop(v);
            checked(x, 7 - v);
        }
    }

    private static void checkStartsAnew() {
        sentence("else READY, no INSTANT has been");
        FlowEquations x = ready("a:!Pa", "b:F5+1Pb", "c:Cad", "d:F3Wba@a");
        for (int round = 0; round < 3; round++) {
            due("check", x.check(), 4);
            infos("no instant", x, 0, -1, 4, 1, 0, 17, 0);
            for (int v = 0; v < 4; v++) {
                due("value", x.value(v), NONE);
                due("present", x.present(v), 0);
            }
            due("memory", x.memory(0, 1), 0);
            due("memory", x.memory(1, 4), 0);
            due("memory", x.memory(2, 0), 0);
            // The P begins with 0 and the F with its first TERM.
            due("step", x.step(1), 1);
            due("value", x.value(0), 1);
            due("value", x.value(1), 5);
            due("value", x.value(2), 3);
            due("step", x.step(round + 1), round + 2);
        }
    }
}

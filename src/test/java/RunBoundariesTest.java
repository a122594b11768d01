/** Each sentence about RUNNING, READY and promises 9 to 14 that names a boundary case. */
public final class RunBoundariesTest extends Calls {
    /** A clock that is not ACTIVE at the first instant: its values are 0 1 0 0 1 0 0 1 .. */
    private static final String THIRD = "a:P!P!Pa";

    public static void main(String[] args) {
        activeClocks();
        clockOnOneThatIsNotPresent();
        wrapping();
        wrappingOverManyInstants();
        comparing();
        andNot();
        choosing();
        previousAtTheFirst();
        previousOnASlowerClock();
        firstThenLater();
        firstOnASlowerClock();
        whenTakesTheValue();
        currentHolds();
        currentNeverActive();
        currentOfCurrent();
        countsByItself();
        countsOnItsOwnClock();
        clockOfWhatStandsInAW();
        readyAfterACheck();
        readyUntilDefineDropOrClock();
        noInstantHasBeenThen();
        stepRange();
        stepNotReady();
        stepOneAfterAnother();
        valueNone();
        presentCounts();
        memoryIsTheLatest();
        memoryBeforeAnActiveInstant();
        memoryNone();
        memoryAtEveryPlace();
        infoRange();
        infoEach();
        infoSixCountsEquationsAlone();
        Due.end();
    }

    // Running

    private static void activeClocks() {
        sentence("the BASE is, and ON c if c is PRESENT and its value is not 0");
        FlowEquations x = ready("a:p", "b:7@a", "c:7");
        int present = 0;
        for (int value : new int[] {0, 1, -1, 0, 2, LEAST, GREATEST, 0, 256, 65536, 1 << 30}) {
            x.input(0, value);
            x.step(1);
            present += value == 0 ? 0 : 1;
            due("value ON " + value, x.value(1), value == 0 ? NONE : 7);
            due("present ON " + value, x.present(1), present);
            due("value on the BASE", x.value(2), 7);
        }
        // A value that wraps to 0 is 0.
        FlowEquations y = ready("a:*pp", "b:7@a");
        y.input(0, 65536);
        y.step(1);
        due("value of the clock", y.value(0), 0);
        due("value ON what wraps to 0", y.value(1), NONE);
    }

    private static void clockOnOneThatIsNotPresent() {
        sentence("ON c if c is PRESENT");
        // When a is 0, b isn't PRESENT, and that it was 5 before makes nothing ACTIVE.
        FlowEquations x = ready("a:p", "b:5@a", "c:6@b", "d:8@c");
        for (int value : new int[] {1, 0, 1, 0, 0}) {
            x.input(0, value);
            x.step(1);
            due("value ON a", x.value(1), value == 0 ? NONE : 5);
            due("value ON b", x.value(2), value == 0 ? NONE : 6);
            due("value ON c", x.value(3), value == 0 ? NONE : 8);
            due("present at the latest", x.info(6), value == 0 ? 1 : 4);
        }
        due("present ON c", x.present(3), 2);
        // A chain of all eight: the first 0 ends it.
        FlowEquations y = ready("h:p", "g:1@h", "f:1@g", "e:!Pe@f", "d:1@e", "c:1@d", "b:1@c", "a:1@b");
        for (int instant = 1; instant <= 4; instant++) {
            y.input(0, instant == 3 ? 0 : 1);
            y.step(1);
            due("the chain's end", y.value(0), instant == 1 || instant == 4 ? 1 : NONE);
            due("present at the latest", y.info(6), new int[] {8, 4, 1, 8}[instant - 1]);
        }
    }

    private static void wrapping() {
        sentence("+ - *: of both values, wrapping");
        int[] edges = {LEAST, LEAST + 1, -65536, -46341, -2, -1, 0, 1, 2, 46340, 46341, 65535, 65536, GREATEST - 1, GREATEST};
        for (int p : edges) {
            for (int q : edges) {
                term("+pq", p, q, (int) ((long) p + q));
                term("-pq", p, q, (int) ((long) p - q));
                term("*pq", p, q, (int) ((long) p * q));
            }
        }
        term("+pq", GREATEST, 1, LEAST);
        term("+pq", LEAST, LEAST, 0);
        term("-pq", LEAST, 1, GREATEST);
        term("-0p", LEAST, 0, LEAST);
        term("*pq", LEAST, -1, LEAST);
        term("*pq", 46341, 46341, -2147479015);
        // What wraps in the middle has wrapped for what is around it.
        term("<+p10", GREATEST, 0, 1);
        term("-+p11", GREATEST, 0, GREATEST);
        term("=*pq0", 65536, 65536, 1);
        term("?*pq12", 65536, 65536, 2);
    }

    private static void wrappingOverManyInstants() {
        sentence("wrapping (in what was before, too)");
        FlowEquations x = ready("a:F1*9*9*9Pa", "b:F1+9*8Pb", "c:P+cc");
        int a = 1;
        int b = 1;
        for (int instant = 1; instant <= 120; instant++) {
            x.step(1);
            due("9 * 9 * 9 * what was", x.value(0), a);
            due("memory of it", x.memory(0, 8), a);
            due("9 + 8 * what was", x.value(1), b);
            due("0 + 0", x.value(2), 0);
            a *= 729;
            b = 9 + 8 * b;
        }
    }

    private static void comparing() {
        sentence("< = : 1 or 0");
        int[] edges = {LEAST, LEAST + 1, -1, 0, 1, GREATEST - 1, GREATEST};
        for (int p : edges) {
            for (int q : edges) {
                term("<pq", p, q, p < q ? 1 : 0);
                term("=pq", p, q, p == q ? 1 : 0);
            }
        }
    }

    private static void andNot() {
        sentence("&: 1 if both are not 0, else 0; !: 1 if it is 0, else 0");
        int[] edges = {LEAST, -2, -1, 0, 1, 2, 4, GREATEST};
        for (int p : edges) {
            term("!p", p, 0, p == 0 ? 1 : 0);
            for (int q : edges) {
                term("&pq", p, q, p != 0 && q != 0 ? 1 : 0);
            }
        }
    }

    private static void choosing() {
        sentence("?: the second if the first is not 0, else the third");
        for (int p : new int[] {LEAST, -1, 0, 1, 2, 256, 65536, GREATEST}) {
            term("?pq9", p, 5, p == 0 ? 9 : 5);
            term("?p9q", p, 5, p == 0 ? 5 : 9);
        }
    }

    private static void previousAtTheFirst() {
        sentence("P t: what t's value was at the INSTANT before at which k was ACTIVE; 0 if there was none");
        flow(ready("a:P7"), 'a', 0, 7, 7);
        flow(ready("a:PP7"), 'a', 0, 0, 7, 7);
        flow(ready("a:PPPPP7"), 'a', 0, 0, 0, 0, 0, 7);
        flow(ready("a:+5P7"), 'a', 5, 12, 12);
        // All that a step passes counts, not only the last of it.
        FlowEquations x = ready("a:F1+1Pa", "b:Pa", "c:PPa");
        x.step(20);
        due("a", x.value(0), 20);
        due("P a", x.value(1), 19);
        due("P P a", x.value(2), 18);
        // The input's value of the instant before, not the latest that was set.
        FlowEquations y = ready("a:Pp");
        y.input(0, 3);
        y.step(1);
        due("P p at the first instant", y.value(0), 0);
        y.input(0, 4);
        y.input(0, 5);
        y.step(1);
        due("P p", y.value(0), 3);
        y.step(1);
        due("P p", y.value(0), 5);
    }

    private static void previousOnASlowerClock() {
        sentence("at the INSTANT before at which k was ACTIVE");
        flow(ready(THIRD), 'a', 0, 1, 0, 0, 1, 0, 0, 1);
        flow(ready(THIRD, "b:F1+1Pb", "c:Wba@a", "d:Pc@a"), 'd', null, 0, null, null, 2, null, null, 5);
        flow(ready(THIRD, "b:F1+1Pb", "d:PWba@a"), 'd', null, 0, null, null, 2, null, null, 5);
        flow(ready(THIRD, "b:F1+1Pb", "d:WPba@a"), 'd', null, 1, null, null, 4, null, null, 7);
        flow(ready(THIRD, "d:P7@a"), 'd', null, 0, null, null, 7);
    }

    private static void firstThenLater() {
        sentence("F t u: t's value at the first INSTANT at which k is ACTIVE, u's at later ones");
        flow(ready("a:F12"), 'a', 1, 2, 2, 2);
        flow(ready("a:F1F23"), 'a', 1, 3, 3);
        flow(ready("a:FF123"), 'a', 1, 3, 3);
        flow(ready("a:PF12"), 'a', 0, 1, 2, 2);
        flow(ready("a:FP12"), 'a', 0, 2, 2);
        flow(ready("a:F1P2"), 'a', 1, 2, 2);
        // The P in the second counts from the first instant on.
        flow(ready("a:F9P+1Pa"), 'a', 9, 1, 10, 2, 11);
        FlowEquations x = ready("a:F12");
        x.step(20);
        due("after a step of 20", x.value(0), 2);
        // A check begins anew.
        flow(x, 'a', 1, 2);
    }

    private static void firstOnASlowerClock() {
        sentence("F t u: .. at which k is ACTIVE");
        flow(ready(THIRD, "b:F12@a"), 'b', null, 1, null, null, 2, null, null, 2);
        flow(ready(THIRD, "b:CaF12"), 'b', 0, 1, 1, 1, 2, 2, 2, 2);
        // Here k is the BASE, whose first INSTANT was before.
        flow(ready(THIRD, "b:WF12a@a"), 'b', null, 2, null, null, 2);
        flow(ready(THIRD, "b:F5Ca1"), 'b', 5, 1, 1);
        FlowEquations x = ready("a:p", "b:F12@a");
        x.step(20);
        x.step(20);
        due("present after 40 instants", x.present(1), 0);
        x.input(0, -3);
        x.step(1);
        due("the first after 40 that were not", x.value(1), 1);
        x.input(0, 0);
        x.step(20);
        due("not present", x.value(1), NONE);
        x.input(0, 4);
        x.step(1);
        due("the second", x.value(1), 2);
    }

    private static void whenTakesTheValue() {
        sentence("W t c: t's value");
        flow(ready("a:!Pa", "b:F1+1Pb", "c:Wba@a"), 'c', 1, null, 3, null, 5);
        // Of this instant, not of the one at which it was there last.
        flow(ready(THIRD, "b:F1+1Pb", "c:Wba@a"), 'c', null, 2, null, null, 5);
        // The clock's own value, which is not 0 there, and of one on its clock that may be 0.
        FlowEquations x = ready("a:p", "b:Waa@a", "c:Wqa@a");
        for (int value : new int[] {0, LEAST, -1, 1, GREATEST}) {
            x.input(0, value);
            x.step(1);
            due("W a a", x.value(1), value == 0 ? NONE : value);
            due("W q a", x.value(2), value == 0 ? NONE : 0);
        }
    }

    private static void currentHolds() {
        sentence("C c t: t's value if the CLOCK ON c is ACTIVE now; else what it was when that was ACTIVE last");
        FlowEquations x = ready("a:p", "b:Wqa@a", "c:Cab", "d:CaWqa", "e:Ca+1Pb");
        int[][] rows = {
            // p, q, c and d, e
            {0, 9, 0, 0}, {1, 3, 3, 1}, {0, 4, 3, 1}, {0, 5, 3, 1}, {2, 6, 6, 4}, {-1, 0, 0, 7}, {0, 8, 0, 7}, {1, LEAST, LEAST, 1},
            {0, 1, LEAST, 1}, {GREATEST, 2, 2, LEAST + 1}};
        for (int[] row : rows) {
            x.input(0, row[0]);
            x.input(1, row[1]);
            x.step(1);
            due("C a b", x.value(2), row[2]);
            due("C a W q a", x.value(3), row[2]);
            due("C a + 1 P b", x.value(4), row[3]);
            due("memory of it", x.memory(2, 0), row[2]);
        }
    }

    private static void currentNeverActive() {
        sentence("C c t: .. 0 if it never was");
        FlowEquations x = ready("a:p", "b:Ca9", "c:9@a", "d:Cac", "e:!Ca9");
        x.step(20);
        x.step(20);
        for (int v : new int[] {1, 3}) {
            due("never", x.value(v), 0);
        }
        due("not of never", x.value(4), 1);
        due("memory of never", x.memory(1, 0), 0);
        x.input(0, 1);
        x.step(1);
        x.input(0, 0);
        x.step(20);
        due("once", x.value(1), 9);
        due("once", x.value(3), 9);
        x.check();
        x.step(1);
        due("never since the check", x.value(1), 0);
    }

    private static void currentOfCurrent() {
        sentence("C c t: .. if the CLOCK ON c is ACTIVE now (c has a CLOCK itself)");
        // c is ON b, which is ON a: the inner C stands where a is not 0, the outer one everywhere.
        FlowEquations x = ready("a:p", "b:Wqa@a", "c:WWrab@b", "d:CaCbc", "e:Cbc@a");
        int[][] rows = {
            // p, q, r, d, e
            {0, 1, 9, 0, -9}, {1, 0, 8, 0, 0}, {1, 1, 7, 7, 7}, {0, 1, 6, 7, -9}, {1, 0, 5, 7, 7}, {0, 0, 4, 7, -9}, {2, -1, 3, 3, 3}};
        for (int[] row : rows) {
            x.input(0, row[0]);
            x.input(1, row[1]);
            x.input(2, row[2]);
            x.step(1);
            due("C a C b c", x.value(3), row[3]);
            due("C b c", x.value(4), row[4] == -9 ? NONE : row[4]);
        }
    }

    private static void countsByItself() {
        sentence("What a TERM was before counts for every P and C in an EQUATION by itself, also where a ? does not choose it");
        flow(ready("a:F1+1Pa", "b:?=a4Pa0"), 'b', 0, 0, 0, 3, 0);
        flow(ready("a:F1+1Pa", "b:?=a40Pa"), 'b', 0, 1, 2, 0, 4);
        flow(ready("a:F1+1Pa", "b:?<a4PPaPa"), 'b', 0, 0, 1, 3, 4);
        flow(ready("a:F1+1Pa", "b:<a3", "c:Wab@b", "d:?=a5Cbc0"), 'd', 0, 0, 0, 0, 2, 0);
        // Nor does an F or an & keep it from counting.
        flow(ready("a:F1+1Pa", "b:F0Pa"), 'b', 0, 1, 2);
        flow(ready("a:F1+1Pa", "b:FPa9"), 'b', 0, 9, 9);
        memories(ready("a:F1+1Pa", "b:FPa9"), 'b', 1, 1, 2, 3);
        memories(ready("a:F1+1Pa", "b:&0Pa"), 'b', 2, 1, 2, 3);
        memories(ready("a:F1+1Pa", "b:?0Pa1"), 'b', 2, 1, 2, 3);
        memories(ready("a:F1+1Pa", "b:?10Pa"), 'b', 3, 1, 2, 3);
        memories(ready("a:!Pa", "b:F1+1Pb", "c:?0CaWba1"), 'c', 2, 1, 1, 3, 3, 5);
        // Two of the same TERM have a memory each.
        memories(ready("a:F1+1Pa", "b:+PaPPa"), 'b', 1, 1, 2, 3);
        memories(ready("a:F1+1Pa", "b:+PaPPa"), 'b', 3, 0, 1, 2);
    }

    private static void countsOnItsOwnClock() {
        sentence("What a TERM was before counts for every P and C .. by itself (also while the variable isn't PRESENT)");
        // Inside the W the clock is the BASE, so what was before is that of the instant before.
        flow(ready("a:F0!Pa", "b:F1+1Pb", "c:WPba@a"), 'c', null, 1, null, 3, null, 5);
        memories(ready("a:F0!Pa", "b:F1+1Pb", "c:WPba@a"), 'c', 1, 1, 2, 3, 4);
        memories(ready("a:F0!Pa", "b:F1+1Pb", "c:PWba@a"), 'c', 0, 0, 2, 2, 4, 4);
        memories(ready("a:F0!Pa", "b:!a", "c:F1+1Pc", "d:WCbWcba@a"), 'd', 1, 1, 1, 3, 3, 5);
        flow(ready("a:F0!Pa", "b:!a", "c:F1+1Pc", "d:WCbWcba@a"), 'd', null, 1, null, 3, null, 5);
    }

    private static void clockOfWhatStandsInAW() {
        sentence("To FIT a CLOCK k: .. W t c if k is ON c and t FITS the CLOCK of c .. the value of a TERM that FITS an ACTIVE CLOCK k");
        // b's clock is ON a and that of c, d, e, f is ON b: what stands in their Ws goes by the clock
        // ON a, neither by the BASE nor by their own; f's P, which stands in no W, by its own.
        FlowEquations x = ready("a:p", "b:Wqa@a", "c:WPWrab@b", "d:WF7Wrab@b", "e:WChWWrahb@b", "f:PWWrab@b", "h:Wsa@a");
        long[][] rows = {
            // p, q, r, s, then c, d, e, f
            {0, 1, 1, 1, NONE, NONE, NONE, NONE}, {1, 0, 2, 1, NONE, NONE, NONE, NONE}, {0, 1, 3, 1, NONE, NONE, NONE, NONE},
            {1, 1, 4, 0, 2, 4, 2, 0}, {1, 0, 5, 0, NONE, NONE, NONE, NONE}, {2, 5, 6, 3, 5, 6, 6, 4},
            {0, 1, 7, 1, NONE, NONE, NONE, NONE}, {1, 1, 8, 0, 6, 8, 6, 6}};
        valuesByInputs(x, rows);
        due("P in a W", x.memory(2, 1), 8);
        due("C in a W", x.memory(4, 1), 6);
        due("P in no W", x.memory(5, 0), 8);
        x.check();
        valuesByInputs(x, new long[][] {{0, 1, 1, 1, NONE, NONE, NONE, NONE}, {1, 1, 2, 0, 0, 7, 0, 0}, {1, 1, 3, 0, 2, 3, 0, 2}});
    }

    /** A row is what the four inputs become, and then the values of c, d, e and f. */
    private static void valuesByInputs(FlowEquations x, long[][] rows) {
        for (long[] row : rows) {
            for (int k = 0; k < 4; k++) {
                x.input(k, (int) row[k]);
            }
            x.step(1);
            for (int v = 2; v < 6; v++) {
                due("value(" + v + ") at instant " + x.info(4), x.value(v), row[v + 2]);
            }
        }
    }

    // READY

    private static void readyAfterACheck() {
        sentence("The equations are READY after a check without fault");
        FlowEquations x = new FlowEquations();
        due("at first", x.info(3), 0);
        due("step at first", x.step(1), STATE);
        x.check();
        due("after a check of nothing", x.info(3), 1);
        define(x, 'a', "a");
        x.check();
        due("after a check with a fault", x.info(3), 0);
        define(x, 'a', "1");
        due("before the next check", x.info(3), 0);
        x.check();
        due("after a check without fault", x.info(3), 1);
        // Neither typing nor asking nor an input ends it.
        x.type('1');
        x.types(eight("11"));
        x.input(0, 1);
        x.step(1);
        x.value(0);
        x.present(0);
        x.memory(0, 0);
        x.info(0);
        due("after all else", x.info(3), 1);
        due("step after all else", x.step(1), 2);
    }

    private static void readyUntilDefineDropOrClock() {
        sentence("until a call of define, drop or clock that isn't refused");
        FlowEquations x = ready("a:1", "b:2");
        x.step(1);
        write(x, "1");
        x.define(-1);
        x.define(8);
        due("after a define that is REFUSED", x.info(3), 1);
        write(x, "1");
        due("define of a bad line", x.define(0), SYNTAX);
        due("after a define that is SYNTAX", x.info(3), 1);
        x.drop(7);
        x.drop(8);
        x.drop(-1);
        due("after a drop that is REFUSED", x.info(3), 1);
        x.clock(0, -2);
        x.clock(0, 8);
        x.clock(8, 0);
        x.clock(-1, -1);
        due("after a clock that is REFUSED", x.info(3), 1);
        due("step", x.step(1), 2);
        define(x, 'a', "1");
        due("after the same definition again", x.info(3), 0);
        due("step", x.step(1), STATE);
        x.check();
        x.drop(1);
        due("after drop", x.info(3), 0);
        due("step", x.step(1), STATE);
        x.check();
        x.clock(0, BASE);
        due("after the same clock again", x.info(3), 0);
        due("step", x.step(1), STATE);
        x.check();
        x.clock(5, 6);
        due("after the clock of one without an equation", x.info(3), 0);
        due("step", x.step(1), STATE);
        x.check();
        define(x, 'f', "6");
        due("after another's definition", x.info(3), 0);
        due("step", x.step(1), STATE);
    }

    private static void noInstantHasBeenThen() {
        sentence("then no INSTANT has been");
        for (int way = 0; way < 3; way++) {
            FlowEquations x = ready("a:F1+1Pa", "b:2");
            x.step(5);
            due("what ends READY", way == 0 ? define(x, 'b', "3") - 1 : way == 1 ? x.drop(1) : x.clock(1, BASE), DONE);
            due("instants", x.info(4), 0);
            due("present at the latest", x.info(6), 0);
            due("value", x.value(0), NONE);
            due("present", x.present(0), 0);
            due("memory", x.memory(0, 4), NONE);
            x.check();
            due("memory after a check", x.memory(0, 4), 0);
            due("instants after a check", x.step(1), 1);
            due("value", x.value(0), 1);
        }
    }

    // Promises 9 to 14

    private static void stepRange() {
        sentence("So many INSTANTS (1 .. 20, else REFUSED)");
        for (int n = -25; n <= 45; n++) {
            FlowEquations x = ready("a:F1+1Pa");
            boolean good = n >= 1 && n <= 20;
            due("step(" + n + ")", x.step(n), good ? n : REFUSED);
            due("instants", x.info(4), good ? n : 0);
            due("value", x.value(0), good ? n : NONE);
        }
        FlowEquations x = ready("a:1");
        for (int n : new int[] {LEAST, LEAST + 1, LEAST + 20, 256 + 1, 65536 + 1, GREATEST}) {
            due("step(" + n + ")", x.step(n), REFUSED);
        }
        due("instants", x.info(4), 0);
    }

    private static void stepNotReady() {
        sentence("Not READY: STATE");
        FlowEquations x = new FlowEquations();
        due("step at first", x.step(1), STATE);
        due("step at first", x.step(20), STATE);
        // A number out of range is told first.
        due("step out of range", x.step(0), REFUSED);
        due("step out of range", x.step(21), REFUSED);
        define(x, 'a', "b");
        x.check();
        due("step after a fault", x.step(1), STATE);
        due("instants", x.info(4), 0);
    }

    private static void stepOneAfterAnother() {
        sentence("one after another .. Answers how many there have been since the check");
        FlowEquations x = ready("a:F1+1Pa", "b:!Pb", "c:Wab@b");
        FlowEquations y = ready("a:F1+1Pa", "b:!Pb", "c:Wab@b");
        int all = 0;
        for (int n : new int[] {1, 20, 2, 19, 20, 20, 1}) {
            all += n;
            due("step", x.step(n), all);
            for (int i = 0; i < n; i++) {
                y.step(1);
            }
            due("instants", x.info(4), all);
            for (int v = 0; v < 3; v++) {
                due("value", x.value(v), y.value(v));
                due("present", x.present(v), y.present(v));
            }
            due("value of a", x.value(0), all);
        }
        x.step(0);
        due("step after one that was refused", x.step(1), all + 1);
        x.check();
        due("step after a check", x.step(3), 3);
    }

    private static void valueNone() {
        sentence("NONE if there was none, it has no EQUATION, wasn't PRESENT, or is out of range");
        FlowEquations x = ready("a:p", "b:3@a", "h:0");
        for (int v = -1; v <= 8; v++) {
            due("value before an instant", x.value(v), NONE);
        }
        x.step(1);
        due("value 0", x.value(0), 0);
        due("value 0", x.value(7), 0);
        due("value of one that wasn't present", x.value(1), NONE);
        for (int v = 2; v < 7; v++) {
            due("value of one without an equation", x.value(v), NONE);
        }
        for (int v : NO_VARIABLES) {
            due("value out of range", x.value(v), NONE);
        }
        x.input(0, 1);
        x.step(1);
        due("value of one that is present", x.value(1), 3);
        x.input(0, 0);
        x.step(1);
        due("value of one that isn't any more", x.value(1), NONE);
        // Without an equation, also where its clock is ACTIVE.
        FlowEquations y = ready("a:1");
        y.clock(1, 0);
        y.check();
        y.step(1);
        due("value of one without an equation", y.value(1), NONE);
        // A dropped one's value is gone, also after the next check and instant.
        FlowEquations z = ready("a:1", "b:2");
        z.step(1);
        z.drop(1);
        z.check();
        z.step(1);
        due("value of one that is dropped", z.value(1), NONE);
    }

    private static void presentCounts() {
        sentence("REFUSED if out of range, 0 if not READY or it has no EQUATION");
        FlowEquations x = make("a:p", "b:1@a", "h:1");
        for (int v : NO_VARIABLES) {
            due("out of range, not ready", x.present(v), REFUSED);
        }
        due("not ready", x.present(0), 0);
        x.check();
        due("before an instant", x.present(7), 0);
        int ons = 0;
        for (int instant = 1; instant <= 30; instant++) {
            int on = instant % 3 == 1 ? instant : 0;
            ons += on == 0 ? 0 : 1;
            x.input(0, on);
            x.step(1);
            due("on the BASE", x.present(0), instant);
            due("ON a", x.present(1), ons);
            due("the last variable", x.present(7), instant);
            due("without an equation", x.present(2), 0);
        }
        for (int v : NO_VARIABLES) {
            due("out of range", x.present(v), REFUSED);
        }
        x.drop(1);
        for (int v = 0; v < 8; v++) {
            due("not ready any more", x.present(v), 0);
        }
        x.check();
        x.step(2);
        due("since the check", x.present(0), 2);
        due("of one that is dropped", x.present(1), 0);
    }

    private static void memoryIsTheLatest() {
        sentence("What the value of the TERM in the P or C was last");
        FlowEquations x = ready("a:p", "b:+Pq*2Pr", "c:CaPWqa", "d:PWqa@a");
        int[][] rows = {
            // p, q, what the P W q a holds, what the C holds
            {0, 5, 0, 0}, {1, 6, 6, 0}, {0, 7, 6, 0}, {3, 8, 8, 6}, {0, 9, 8, 6}};
        for (int[] row : rows) {
            x.input(0, row[0]);
            x.input(1, row[1]);
            x.input(2, row[1] + 100);
            x.step(1);
            due("P q", x.memory(1, 1), row[1]);
            due("P r", x.memory(1, 5), row[1] + 100);
            due("P W q a in a C", x.memory(2, 2), row[2]);
            due("P W q a on its clock", x.memory(3, 0), row[2]);
            due("C a P W q a", x.memory(2, 0), row[3]);
        }
        // It is told of the latest instant, while the value is still of the one before.
        FlowEquations y = ready("a:Pp");
        y.input(0, 4);
        y.step(1);
        due("value", y.value(0), 0);
        due("memory", y.memory(0, 0), 4);
    }

    private static void memoryBeforeAnActiveInstant() {
        sentence("at its latest ACTIVE INSTANT since the check, 0 if there was none");
        FlowEquations x = ready("a:p", "b:P7@a", "c:Ca7", "d:P7");
        due("before an instant", x.memory(1, 0), 0);
        due("before an instant", x.memory(2, 0), 0);
        due("before an instant", x.memory(3, 0), 0);
        x.step(20);
        due("clock not ACTIVE", x.memory(1, 0), 0);
        due("clock not ACTIVE", x.memory(2, 0), 0);
        due("the BASE", x.memory(3, 0), 7);
        x.input(0, -1);
        x.step(1);
        due("clock ACTIVE", x.memory(1, 0), 7);
        due("clock ACTIVE", x.memory(2, 0), 7);
        x.input(0, 0);
        x.step(1);
        due("clock not ACTIVE any more", x.memory(1, 0), 7);
        due("clock not ACTIVE any more", x.memory(2, 0), 7);
        x.check();
        for (int v = 1; v <= 3; v++) {
            due("since the check", x.memory(v, 0), 0);
        }
    }

    private static void memoryNone() {
        sentence("NONE if there is no such, or not READY");
        FlowEquations x = make("a:Pa", "b:Cc1", "c:1");
        due("not READY", x.memory(0, 0), NONE);
        due("not READY", x.memory(1, 0), NONE);
        x.check();
        due("READY", x.memory(0, 0), 0);
        due("READY", x.memory(1, 0), 0);
        for (int i : new int[] {-1, 1, 2, 3, 23, 24, 25, 72, LEAST, GREATEST}) {
            due("no such place", x.memory(0, i), NONE);
            due("no such place", x.memory(1, i), NONE);
        }
        for (int v : NO_VARIABLES) {
            due("no such variable", x.memory(v, 0), NONE);
            due("no such variable or place", x.memory(v, -1), NONE);
        }
        for (int v = 2; v < 8; v++) {
            due("no P or C", x.memory(v, 0), NONE);
        }
        define(x, 'c', "c");
        due("not READY after define", x.memory(0, 0), NONE);
        x.check();
        due("not READY after a fault", x.memory(0, 0), NONE);
        define(x, 'c', "1");
        x.check();
        x.drop(0);
        x.check();
        due("of one that is dropped", x.memory(0, 0), NONE);
        // Where longer equations had one before.
        FlowEquations y = ready("a:+1PPa", "b:+1PPa");
        for (int times = 1; times <= 4; times++) {
            define(y, 'a', "+1PPa");
        }
        for (int times = 1; times <= 4; times++) {
            define(y, 'a', "Pa");
            y.check();
            y.step(1);
            due("the new one's", y.memory(0, 0), 0);
            due("behind the new one", y.memory(0, 2), NONE);
            due("behind the new one", y.memory(0, 3), NONE);
        }
    }

    private static void memoryAtEveryPlace() {
        sentence("whose P or C is character i (from 0) of variable v's EQUATION as it was typed");
        String text = "??P1Cb2Cb3?P4P5P6F+P7P89";
        FlowEquations x = make("h:" + text, "b:1");
        due("characters", x.info(5), 25);
        due("check", x.check(), 2);
        x.step(1);
        for (int i = -1; i <= 25; i++) {
            boolean holds = i >= 0 && i < 24 && (text.charAt(i) == 'P' || text.charAt(i) == 'C');
            int digit = !holds ? 0 : text.charAt(i + (text.charAt(i) == 'C' ? 2 : 1)) - '0';
            due("memory at " + i, x.memory(7, i), holds ? digit : NONE);
        }
        // At the last place but one, where the last P of a full line can stand.
        FlowEquations y = ready("a:+?+11+11+11?+11+11+1+1P7");
        y.step(1);
        due("memory at 22", y.memory(0, 22), 7);
        due("memory at 23", y.memory(0, 23), NONE);
    }

    private static void infoRange() {
        sentence("another what: REFUSED");
        FlowEquations x = ready("a:1");
        x.step(1);
        for (int what : new int[] {-1, -2, 7, 8, 9, 100, 256, LEAST, GREATEST}) {
            due("info(" + what + ")", x.info(what), REFUSED);
            due("info(" + what + ") of a new one", new FlowEquations().info(what), REFUSED);
        }
    }

    private static void infoEach() {
        sentence("The line's length (0), the latest bad place, -1 if there was none (1), ..");
        FlowEquations x = new FlowEquations();
        infos("new", x, 0, -1, 0, 0, 0, 0, 0);
        write(x, "+?+11+11+11?+11+11+1+1!1");
        infos("full line", x, 24, -1, 0, 0, 0, 0, 0);
        for (int v = 0; v < 8; v++) {
            x.define(v);
            write(x, "+?+11+11+11?+11+11+1+1!1");
            infos("definitions", x, 24, -1, v + 1, 0, 0, 24 * (v + 1), 0);
        }
        x.check();
        infos("checked", x, 24, -1, 8, 1, 0, 192, 0);
        x.step(20);
        infos("run", x, 24, -1, 8, 1, 20, 192, 8);
        x.type('1');
        x.types(1);
        x.define(9);
        infos("refused", x, 24, -1, 8, 1, 20, 192, 8);
        x.define(7);
        write(x, "!");
        x.define(0);
        infos("a bad line", x, 0, 1, 8, 0, 0, 192, 0);
        define(x, 'c', "7");
        infos("a short one for a long one", x, 0, 1, 8, 0, 0, 169, 0);
        x.drop(3);
        infos("dropped", x, 0, 1, 7, 0, 0, 145, 0);
        x.define(0);
        infos("an empty line", x, 0, 0, 7, 0, 0, 145, 0);
    }

    private static void infoSixCountsEquationsAlone() {
        sentence("info: 6 counts variables with EQUATIONS alone");
        FlowEquations x = make("a:p", "b:1@a", "c:1");
        // The clocks of d (the BASE) and of e (ON c) are ACTIVE, but these have no equations.
        x.clock(4, 2);
        x.check();
        due("before an instant", x.info(6), 0);
        x.step(1);
        due("two of three", x.info(6), 2);
        x.input(0, 1);
        x.step(1);
        due("three of three", x.info(6), 3);
        define(x, 'e', "1");
        due("not ready", x.info(6), 0);
        x.check();
        x.step(1);
        due("four of four", x.info(6), 4);
        x.drop(4);
        x.check();
        x.step(1);
        due("the dropped one is not counted", x.info(6), 3);
        FlowEquations none = new FlowEquations();
        none.check();
        none.step(5);
        due("none", none.info(6), 0);
    }
}

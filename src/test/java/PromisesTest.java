/** The promises one by one: ordinary inputs, the edges that the document names, wrong inputs. */
public final class PromisesTest extends Calls {
    public static void main(String[] args) {
        newObject();
        type();
        types();
        defineDepth();
        defineBadPlace();
        defineAndTheLine();
        defineRefusedChangesNothing();
        drop();
        clock();
        input();
        checkMissing();
        checkClockRings();
        checkFit();
        checkNeeds();
        checkOrderOfSorts();
        checkStartsAnew();
        step();
        operators();
        previous();
        followedBy();
        when();
        current();
        fasterClockInsideW();
        orderOfVariables();
        value();
        present();
        memory();
        info();
        Due.end();
    }

    // Promise 1

    private static void newObject() {
        FlowEquations x = new FlowEquations();
        infos("new", x, 0, -1, 0, 0, 0, 0, 0);
        for (int v = 0; v < 8; v++) {
            due("new: value", x.value(v), NONE);
            due("new: present", x.present(v), 0);
            due("new: memory", x.memory(v, 0), NONE);
            due("new: drop", x.drop(v), REFUSED);
        }
        due("new: step", x.step(1), STATE);
        due("new: check", x.check(), 0);
        infos("checked empty", x, 0, -1, 0, 1, 0, 0, 0);
        due("empty: step", x.step(20), 20);
        due("empty: value", x.value(0), NONE);
        due("empty: present", x.present(0), 0);
        infos("run empty", x, 0, -1, 0, 1, 20, 0, 0);
        // An input's name FITS the BASE alone, so all the clocks are the BASE.
        flow(ready("a:p", "b:q", "c:r", "d:s", "e:p", "f:q", "g:r", "h:s"), 'h', 0, 0);
    }

    // Promise 2

    private static void type() {
        for (int i = 0; i < CHARACTERS.length(); i++) {
            FlowEquations x = new FlowEquations();
            due("type " + CHARACTERS.charAt(i), x.type(CHARACTERS.charAt(i)), 1);
            due("type it again", x.type(CHARACTERS.charAt(i)), 2);
        }
        for (int c = -70000; c < 140000; c++) {
            if (c < 0 || CHARACTERS.indexOf(c) < 0) {
                due("type of code " + c, new FlowEquations().type(c), REFUSED);
            }
        }
        FlowEquations x = new FlowEquations();
        due("type of the least", x.type(Integer.MIN_VALUE), REFUSED);
        due("type of the greatest", x.type(Integer.MAX_VALUE), REFUSED);
        due("length after refusals", x.info(0), 0);
        for (int length = 1; length <= 24; length++) {
            due("type", x.type('1'), length);
        }
        due("type to a full line", x.type('1'), FULL);
        due("type of a wrong one to a full line", x.type(' '), REFUSED);
        due("length of the full line", x.info(0), 24);
    }

    // Promise 3

    private static void types() {
        FlowEquations x = new FlowEquations();
        due("types of nothing", x.types(0), 0);
        due("types highest first", x.types(eight("-73")), 3);
        x.define(0);
        flow(x, 'a', 4);
        due("types with zeros", x.types(0x2D00003900320000L), 3);
        x.define(0);
        flow(x, 'a', 7);
        due("types stops", x.types(eight("12Z34")), REFUSED);
        due("what was before it stays", x.info(0), 2);
        due("types of a high byte", x.types(0x31FF310000000000L), REFUSED);
        due("before a high byte", x.info(0), 3);
        due("types of a negative number", x.types(-1), REFUSED);
        due("before a negative number", x.info(0), 3);
        due("types of a high bit on a digit", x.types(0xB1L), REFUSED);
        due("types eight", x.types(eight("11111111")), 11);
        due("types eight", x.types(eight("11111111")), 19);
        due("types too many", x.types(eight("11111111")), FULL);
        due("the line is full", x.info(0), 24);
        due("types of nothing to a full line", x.types(0), 24);
        due("types one to a full line", x.types(eight("1")), FULL);
        due("types a wrong one to a full line", x.types(eight("i1")), REFUSED);
        FlowEquations y = new FlowEquations();
        write(y, "1111111111111111111111");
        due("types: what comes first counts", y.types(eight("11i1")), REFUSED);
        due("types: full before the wrong one", y.types(eight("1i")), FULL);
    }

    // Promise 4

    private static void defineDepth() {
        String[] lines = {"1", "a", "s", "+1b", "!1", "?123", "P1", "F12", "W1a", "Ca1", "+1!1", "?1!!12", "WWWWW1abcde",
            "CaCbCcCdCe1", "!!!!!1", "PPPPPp", "+++++111111", "?1?1?1?1?1234567",
            "+?+11+11+11?+11+11+1+1!1"};
        int[] depths = {1, 1, 1, 2, 2, 2, 2, 2, 2, 2, 3, 4, 6, 6, 6, 6, 6, 6, 6};
        for (int i = 0; i < lines.length; i++) {
            FlowEquations x = new FlowEquations();
            due("define of " + lines[i], define(x, 'c', lines[i]), depths[i]);
        }
    }

    private static void defineBadPlace() {
        badPlace("", 0);
        badPlace("+", 1);
        badPlace("+1", 2);
        badPlace("11", 1);
        badPlace("ab", 1);
        badPlace("+123", 3);
        badPlace("?12", 3);
        badPlace("?1234", 4);
        badPlace("P", 1);
        badPlace("P1+", 2);
        badPlace("F1", 2);
        badPlace("W", 1);
        badPlace("W1", 2);
        badPlace("W11", 2);
        badPlace("W1p", 2);
        badPlace("W1!", 2);
        badPlace("W1aa", 3);
        badPlace("W!1", 3);
        badPlace("C", 1);
        badPlace("Ca", 2);
        badPlace("C1a", 1);
        badPlace("Cp1", 1);
        badPlace("CCa1", 1);
        badPlace("Ca11", 3);
        badPlace("!!!!!!1", 5);
        badPlace("!!!!!", 5);
        badPlace("!!!!!C", 5);
        badPlace("!!!!!11", 6);
        badPlace("+1+1+1+1+1+11", 10);
        badPlace("?1?1?1?1?12345", 14);
        badPlace("?1?1?1?1?1!", 10);
        badPlace("WWWWWW1abcde", 5);
        badPlace("CaCaCaCaCaC", 10);
        badPlace("PPPPP", 5);
        badPlace("++++++++++++++++++++++++", 5);
        badPlace("+?+11+11+11?+11+11+1+11+", 23);
        badPlace("+?+11+11+11?+11+11+1+1+1", 24);
    }

    private static void defineAndTheLine() {
        FlowEquations x = new FlowEquations();
        write(x, "+12");
        for (int v : NO_VARIABLES) {
            due("define of no variable", x.define(v), REFUSED);
        }
        infos("define refused", x, 3, -1, 0, 0, 0, 0, 0);
        due("define", x.define(7), 2);
        infos("defined", x, 0, -1, 1, 0, 0, 3, 0);
        due("define of an empty line", x.define(7), SYNTAX);
        infos("empty line", x, 0, 0, 1, 0, 0, 3, 0);
        define(x, 'h', "?111");
        infos("defined again", x, 0, 0, 1, 0, 0, 4, 0);
        write(x, "+1");
        due("define of a bad line of no variable", x.define(8), REFUSED);
        infos("bad line of no variable", x, 2, 0, 1, 0, 0, 4, 0);
        for (int v = 0; v < 7; v++) {
            write(x, v == 0 ? "2" : "+12");
            x.define(v);
        }
        infos("all defined", x, 0, 0, 8, 0, 0, 25, 0);
    }

    private static void defineRefusedChangesNothing() {
        FlowEquations x = ready("a:F1+1Pa", "b:a");
        x.step(3);
        write(x, "+");
        due("define of a bad line", x.define(0), SYNTAX);
        infos("after a bad line", x, 0, 1, 2, 1, 3, 7, 2);
        due("value after a bad line", x.value(0), 3);
        due("memory after a bad line", x.memory(0, 4), 3);
        due("present after a bad line", x.present(1), 3);
        due("step after a bad line", x.step(1), 4);
        due("value after a step", x.value(1), 4);
        write(x, "7");
        due("define of no variable", x.define(8), REFUSED);
        infos("after no variable", x, 1, 1, 2, 1, 4, 7, 2);
        due("define", x.define(1), 1);
        infos("after define", x, 0, 1, 2, 0, 0, 7, 0);
        due("value after define", x.value(0), NONE);
        due("present after define", x.present(0), 0);
        due("memory after define", x.memory(0, 4), NONE);
        due("step after define", x.step(1), STATE);
    }

    // Promise 5

    private static void drop() {
        FlowEquations x = ready("a:1", "b:2@a", "c:Pc");
        x.step(2);
        for (int v : NO_VARIABLES) {
            due("drop of no variable", x.drop(v), REFUSED);
        }
        due("drop of one without", x.drop(3), REFUSED);
        infos("drop refused", x, 0, -1, 3, 1, 2, 4, 3);
        due("drop", x.drop(1), DONE);
        infos("dropped", x, 0, -1, 2, 0, 0, 3, 0);
        due("step after drop", x.step(1), STATE);
        due("value after drop", x.value(0), NONE);
        due("drop again", x.drop(1), REFUSED);
        due("check after drop", x.check(), 2);
        due("memory after drop", x.memory(2, 0), 0);
        due("memory of the dropped", x.memory(1, 0), NONE);
        // Its CLOCK stays: an input doesn't FIT it.
        define(x, 'b', "p");
        due("the dropped one's clock", x.check(), -301);
    }

    // Promise 6

    private static void clock() {
        FlowEquations x = ready("a:!Pa", "b:2");
        x.step(1);
        for (int v : NO_VARIABLES) {
            due("clock of no variable", x.clock(v, 0), REFUSED);
            due("clock of no variable, base", x.clock(v, -1), REFUSED);
            if (v != -1) {
                due("clock on no variable", x.clock(0, v), REFUSED);
            }
        }
        due("clock on -2", x.clock(0, -2), REFUSED);
        infos("clock refused", x, 0, -1, 2, 1, 1, 4, 2);
        due("clock", x.clock(1, 0), DONE);
        infos("clock", x, 0, -1, 2, 0, 0, 4, 0);
        due("step after clock", x.step(1), STATE);
        flow(x, 'b', 2, null, 2, null);
        due("clock to the base", x.clock(1, -1), DONE);
        due("not ready", x.info(3), 0);
        flow(x, 'b', 2, 2, 2);
        due("the same clock again", x.clock(1, -1), DONE);
        due("not ready after the same clock", x.info(3), 0);
        due("clock of one without an equation", x.clock(7, 6), DONE);
        due("it has no equation", x.check(), 2);
    }

    // Promise 7

    private static void input() {
        FlowEquations x = ready("a:p", "b:q", "c:r", "d:s", "e:Pp");
        for (int k = 0; k < 4; k++) {
            due("input", x.input(k, k + 5), DONE);
        }
        for (int k : new int[] {-1, 4, 5, Integer.MIN_VALUE, Integer.MAX_VALUE}) {
            due("input of none", x.input(k, 99), REFUSED);
        }
        due("step", x.step(1), 1);
        for (int v = 0; v < 4; v++) {
            due("value of an input", x.value(v), v + 5);
        }
        due("input between", x.input(0, Integer.MIN_VALUE), DONE);
        infos("after input", x, 0, -1, 5, 1, 1, 6, 5);
        due("value before the next instant", x.value(0), 5);
        due("memory before the next instant", x.memory(4, 0), 5);
        x.step(1);
        due("value after it", x.value(0), Integer.MIN_VALUE);
        due("what the input was", x.value(4), 5);
        due("input greatest", x.input(0, Integer.MAX_VALUE), DONE);
        x.check();
        x.step(1);
        due("inputs stay over a check", x.value(0), Integer.MAX_VALUE);
        due("inputs stay over a check", x.value(3), 8);
        due("nothing was before", x.value(4), 0);
    }

    // Promise 8

    private static void checkMissing() {
        fault(-101, "a:b");
        fault(-107, "a:+1Ph");
        fault(-102, "a:Wpc@b", "b:1");
        fault(-102, "a:Cc1");
        fault(-102, "a:PWpc");
        fault(-102, "a:PCc1");
        fault(-101, "a:c@b");
        fault(-101, "a:?1cb");
        fault(-100, "h:1@a");
        fault(-103, "a:1", "b:?a1?1e1", "c:Fd3");
        // The clock of one without an equation is not looked at.
        FlowEquations x = ready("a:1");
        x.clock(1, 2);
        due("check", x.check(), 1);
    }

    private static void checkClockRings() {
        fault(-200, "a:1@a");
        fault(-207, "h:1@h");
        fault(-200, "a:1@b", "b:1@a");
        fault(-201, "a:1@b", "b:1@c", "c:1@d", "d:1@b");
        fault(-202, "a:1@c", "b:1@d", "c:1@d", "d:1@c");
        fault(-200, "a:1@b", "b:1@c", "c:1@d", "d:1@e", "e:1@f", "f:1@g", "g:1@h", "h:1@a");
        fault(-207, "a:1@b", "b:1@c", "c:1@d", "d:1@e", "e:1@f", "f:1@g", "g:1@h", "h:1@h");
        ready("a:1@b", "b:1@c", "c:1@d", "d:1@e", "e:1@f", "f:1@g", "g:1@h", "h:1");
    }

    private static void checkFit() {
        ready("a:1", "b:2@a", "c:+b3@a", "d:Wpa@a", "e:Cab", "f:CaWpa");
        fault(-301, "a:1", "b:p@a");
        fault(-301, "a:1", "b:a@a");
        fault(-302, "a:1", "b:1@a", "c:b");
        for (String equation : new String[] {"+1b", "+b1", "-b1", "*1b", "<b1", "=1b", "&b1", "!b", "?b11", "?1b1", "?11b", "Pb",
            "Fb1", "F1b", "W1a", "Caa", "Cap", "CaW1b", "Cb1", "W1b", "PPPb"}) {
            fault(-302, "a:1", "b:1@a", "c:" + equation);
        }
        for (String equation : new String[] {"p", "a", "Wba", "WWpaa", "W1d", "W1b", "Ca1", "Cdb", "WCaaa", "CbWpb", "Pp", "?1pb"}) {
            fault(-302, "a:1", "b:1@a", "c:" + equation + "@a", "d:1");
        }
        ready("a:1", "b:1@a", "c:WCaba@a", "d:1");
        ready("a:1", "b:1@a", "c:1@b", "d:CaCbc", "e:WWpab@b", "f:CbWbb@a", "g:WCbcb@b");
        // The same values on two clocks are on two clocks all the same.
        fault(-303, "a:1", "b:a", "c:1@a", "d:c@b");
        fault(-303, "a:1", "b:a", "c:1@a", "d:W1a@b");
    }

    private static void checkNeeds() {
        fault(-400, "a:a");
        fault(-407, "a:1", "h:+1h");
        fault(-400, "a:b", "b:a");
        fault(-401, "a:b", "b:c", "c:?1d2", "d:Fb1");
        fault(-400, "a:+Paa");
        fault(-400, "a:Ca1");
        fault(-400, "a:Cab", "b:1@a");
        fault(-400, "a:Cb1", "b:Ca1");
        // The clock is NEEDED, too.
        fault(-400, "a:Cbc", "b:a", "c:1@b");
        fault(-401, "a:c", "b:c", "c:Cbd", "d:1@b");
        ready("a:Pa");
        ready("a:P+1!a");
        ready("a:Pb", "b:a");
        ready("a:PCa1");
        ready("a:P?1Caba", "b:1@a");
        ready("a:PCbc", "b:Pa", "c:1@b");
        ready("a:b", "b:c", "c:d", "d:e", "e:f", "f:g", "g:h", "h:Pa");
        fault(-400, "a:b", "b:c", "c:d", "d:e", "e:f", "f:g", "g:h", "h:a");
    }

    private static void checkOrderOfSorts() {
        fault(-107, "a:a", "b:1@b", "c:a@b", "d:h");
        fault(-201, "a:a", "b:1@b", "c:a@b", "d:1");
        fault(-302, "a:a", "b:1", "c:a@b", "d:1");
        fault(-400, "a:a", "b:1", "c:1@b", "d:1");
        fault(-403, "b:1", "d:d", "f:f");
    }

    private static void checkStartsAnew() {
        FlowEquations x = ready("a:F5+1Pa", "b:Ccd", "c:!Pc", "d:Wac@c");
        x.step(6);
        due("value", x.value(0), 10);
        due("check again", x.check(), 4);
        infos("checked again", x, 0, -1, 4, 1, 0, 15, 0);
        due("value", x.value(0), NONE);
        for (int v = 0; v < 4; v++) {
            due("present", x.present(v), 0);
        }
        due("memory of a P", x.memory(0, 4), 0);
        due("memory of a C", x.memory(1, 0), 0);
        due("step", x.step(1), 1);
        due("value", x.value(0), 5);
        due("value", x.value(3), 5);
    }

    // Promise 9

    private static void step() {
        FlowEquations x = new FlowEquations();
        for (int n : new int[] {0, -1, 21, 22, Integer.MIN_VALUE, Integer.MAX_VALUE}) {
            due("step out of range, not ready", x.step(n), REFUSED);
        }
        due("step, not ready", x.step(1), STATE);
        due("step, not ready", x.step(20), STATE);
        define(x, 'a', "F1+1Pa");
        x.check();
        int all = 0;
        for (int n = 1; n <= 20; n++) {
            all += n;
            due("step", x.step(n), all);
            due("value", x.value(0), all);
            due("instants", x.info(4), all);
        }
        for (int n : new int[] {0, -1, 21}) {
            due("step out of range", x.step(n), REFUSED);
        }
        due("value after refusals", x.value(0), all);
        for (int i = 0; i < 300; i++) {
            x.step(20);
        }
        due("many instants", x.value(0), all + 6000);
    }

    // The values of terms

    private static void operators() {
        int least = Integer.MIN_VALUE;
        int greatest = Integer.MAX_VALUE;
        for (int digit = 0; digit <= 9; digit++) {
            term(Integer.toString(digit), 0, 0, digit);
        }
        term("+pq", 5, 3, 8);
        term("+pq", greatest, 1, least);
        term("-pq", 5, 3, 2);
        term("-pq", 3, 5, -2);
        term("-pq", least, 1, greatest);
        term("*pq", 5, -3, -15);
        term("*pq", 65536, 65536, 0);
        term("*pq", greatest, 2, -2);
        term("*pq", least, -1, least);
        term("<pq", 3, 5, 1);
        term("<pq", 5, 3, 0);
        term("<pq", 5, 5, 0);
        term("<pq", least, greatest, 1);
        term("<pq", greatest, least, 0);
        term("=pq", 5, 5, 1);
        term("=pq", 5, -5, 0);
        term("=pq", least, least, 1);
        term("&pq", 5, -3, 1);
        term("&pq", 2, 4, 1);
        term("&pq", 0, 3, 0);
        term("&pq", 3, 0, 0);
        term("&pq", 0, 0, 0);
        term("!p", 0, 0, 1);
        term("!p", 1, 0, 0);
        term("!p", -7, 0, 0);
        term("?pq9", 1, 4, 4);
        term("?pq9", -1, 4, 4);
        term("?pq9", 0, 4, 9);
        term("-+*23p*q!0", 4, 5, 5);
        term("?<pq-qp*pq", 2, 9, 7);
        term("?<pq-qp*pq", 9, 2, 18);
    }

    private static void previous() {
        flow(ready("a:F1+1Pa", "b:Pa"), 'b', 0, 1, 2, 3);
        flow(ready("a:F1+1Pa", "b:PPa"), 'b', 0, 0, 1, 2, 3);
        flow(ready("a:F1+1Pa", "b:PPPPPa"), 'b', 0, 0, 0, 0, 0, 1, 2);
        flow(ready("a:P7"), 'a', 0, 7, 7);
        flow(ready("a:P!Pa"), 'a', 0, 1, 1, 0, 0, 1, 1);
        flow(ready("a:+1Pb", "b:+1Pa"), 'b', 1, 2, 3, 4);
        // On a slower clock the instant before is that clock's.
        flow(ready("a:!Pa", "b:F1+1Pb", "c:Wba@a", "d:Pc@a"), 'd', 0, null, 1, null, 3);
        // A P counts by itself where a ? doesn't choose it.
        flow(ready("a:F1+1Pa", "b:?=a3Pa0"), 'b', 0, 0, 2, 0);
        flow(ready("a:F1+1Pa", "b:P?=a3Pa0"), 'b', 0, 0, 0, 2, 0);
    }

    private static void followedBy() {
        flow(ready("a:F12"), 'a', 1, 2, 2);
        flow(ready("a:F1F23"), 'a', 1, 3, 3);
        flow(ready("a:FF123"), 'a', 1, 3, 3);
        flow(ready("a:PF12"), 'a', 0, 1, 2);
        flow(ready("a:F0!Pa", "b:F12@a"), 'b', null, 1, null, 2, null, 2);
        flow(ready("a:F0!Pa", "b:F12@a", "c:Cab"), 'c', 0, 1, 1, 2);
        // Where a ? doesn't choose the F, its clock is ACTIVE all the same.
        flow(ready("a:F0!Pa", "b:?aF129"), 'b', 9, 2, 9, 2);
    }

    private static void when() {
        flow(ready("a:F0!Pa", "b:F1+1Pb", "c:Wba@a"), 'c', null, 2, null, 4);
        flow(ready("a:F1+1Pa", "b:<a4", "c:Wab@b"), 'c', 1, 2, 3, null, null);
        flow(ready("a:-0P!a", "b:Wpa@a"), 'b', null, 0, null, 0);
    }

    private static void current() {
        flow(ready("a:F0!Pa", "b:F1+1Pb", "c:Wba@a", "d:Cac"), 'd', 0, 2, 2, 4, 4, 6);
        flow(ready("a:!Pa", "b:F1+1Pb@a", "c:CaPb"), 'c', 0, 0, 1, 1, 2, 2);
        flow(ready("a:!Pa", "b:F5+1Pb", "c:CaWba"), 'c', 5, 5, 7, 7, 9);
        flow(ready("a:F0P0", "b:Ca9"), 'b', 0, 0, 0);
        flow(ready("a:P<Pa3", "b:Ca9"), 'b', 0, 9, 9, 9);
        // A C counts by itself where a ? doesn't choose it.
        flow(ready("a:F1+1Pa", "b:<a3", "c:Wab@b", "d:?=a5Cbc0"), 'd', 0, 0, 0, 0, 2, 0);
        // Two below one another: each holds on its own clock.
        flow(ready("a:!Pa", "b:!Pb@a", "c:F1+1Pc", "d:WWcab@b", "e:CaCbd"), 'e', 1, 1, 1, 1, 5, 5, 5, 5, 9);
    }

    private static void fasterClockInsideW() {
        // The P inside the W FITS the BASE, so it holds what was at the instant before, not at a's.
        FlowEquations x = ready("a:!Pa", "b:F0+1Pb", "c:WPba@a");
        flow(x, 'c', 0, null, 1, null, 3);
        due("memory while present", x.memory(2, 1), 4);
        x.step(1);
        due("value while not present", x.value(2), NONE);
        due("memory while not present", x.memory(2, 1), 5);
        // The F's clock is the BASE, which was ACTIVE before the clock ON a was.
        flow(ready("a:F0!Pa", "b:F1+1Pb", "c:WF7ba@a"), 'c', null, 2, null, 4);
        flow(ready("a:F0!Pa", "b:F1+1Pb", "c:F7Wba@a"), 'c', null, 7, null, 4);
        // A C inside a W takes up what is there also when the W's variable isn't.
        flow(ready("a:!Pa", "b:!a", "c:F1+1Pc", "d:Wca@a", "e:WCadb@b"), 'e', null, 1, null, 3, null, 5);
        // And within a P, where nothing NEEDS it.
        flow(ready("a:!Pa", "b:F0+1Pb", "c:PWPba@a"), 'c', 0, null, 0, null, 1, null, 3);
    }

    private static void orderOfVariables() {
        flow(ready("a:+1b", "b:+1c", "c:+1d", "d:F0+1Pd"), 'a', 3, 4, 5);
        flow(ready("h:+1g", "g:+1f", "f:F0Ph"), 'h', 2, 4, 6);
        flow(ready("a:5@b", "b:c", "c:!Pc"), 'a', 5, null, 5);
        flow(ready("a:Pb", "b:+1a"), 'a', 0, 1, 2);
        flow(ready("a:Cbc", "b:!d", "c:Che@b", "d:Pb", "e:W6h@h", "h:1@b"), 'a', 6, 6, 6);
    }

    // Promise 10

    private static void value() {
        FlowEquations x = ready("a:F3Pa", "b:7@a", "c:F1P!c", "d:4@c");
        for (int v = 0; v < 8; v++) {
            due("value before an instant", x.value(v), NONE);
        }
        x.step(1);
        due("value", x.value(0), 3);
        due("value of one on a clock", x.value(1), 7);
        due("value of one without an equation", x.value(4), NONE);
        for (int v : NO_VARIABLES) {
            due("value out of range", x.value(v), NONE);
        }
        x.step(1);
        due("value 0 is a value", x.value(2), 0);
        due("value of one that isn't present", x.value(3), NONE);
        define(x, 'e', "1");
        due("value after define", x.value(0), NONE);
        x.check();
        due("value after check", x.value(0), NONE);
        FlowEquations y = ready("a:-0*8*88");
        y.step(1);
        due("value below 0", y.value(0), -512);
    }

    // Promise 11

    private static void present() {
        FlowEquations x = make("a:!Pa", "b:1@a", "c:!Pc@a", "d:1@c");
        due("present before the check", x.present(0), 0);
        x.clock(6, 0);
        x.check();
        due("present before an instant", x.present(0), 0);
        int[][] wanted = {{1, 1, 1, 1}, {2, 1, 1, 1}, {3, 2, 2, 1}, {4, 2, 2, 1}, {5, 3, 3, 2}};
        for (int[] row : wanted) {
            x.step(1);
            for (int v = 0; v < 4; v++) {
                due("present of " + v, x.present(v), row[v]);
            }
            due("present of one without an equation", x.present(5), 0);
            due("present of one without an equation, on a clock", x.present(6), 0);
        }
        for (int v : NO_VARIABLES) {
            due("present out of range", x.present(v), REFUSED);
        }
        x.clock(7, 0);
        due("present when not ready", x.present(0), 0);
        due("present out of range when not ready", x.present(8), REFUSED);
    }

    // Promise 12

    private static void memory() {
        FlowEquations x = make("a:F1+1Pa", "b:?PaPPaCca", "c:!Pc", "d:+p2@c");
        due("memory when not checked", x.memory(0, 4), NONE);
        due("check", x.check(), -301);
        due("memory when not ready", x.memory(0, 4), NONE);
        define(x, 'd', "+1Wac");
        define(x, 'b', "?PaPPaCcd");
        due("check", x.check(), 4);
        due("memory before an instant", x.memory(0, 4), 0);
        due("memory before an instant", x.memory(1, 6), 0);
        x.step(4);
        due("memory of a P", x.memory(0, 4), 4);
        due("memory of the first P", x.memory(1, 1), 4);
        due("memory of the outer P", x.memory(1, 3), 3);
        due("memory of the inner P", x.memory(1, 4), 4);
        due("memory of the C", x.memory(1, 6), 4);
        for (int place : new int[] {0, 2, 5, 7, 8, 9, 23, 24, 25, -1, Integer.MIN_VALUE, Integer.MAX_VALUE}) {
            due("memory at " + place, x.memory(1, place), NONE);
        }
        due("memory of an F", x.memory(0, 0), NONE);
        due("memory of a W", x.memory(3, 2), NONE);
        for (int v : NO_VARIABLES) {
            due("memory of no variable", x.memory(v, 0), NONE);
        }
        due("memory of one without an equation", x.memory(5, 0), NONE);
        // A shorter equation leaves nothing of the longer one.
        define(x, 'b', "Pa");
        due("check", x.check(), 4);
        due("memory of the shorter", x.memory(1, 0), 0);
        due("memory behind the shorter", x.memory(1, 3), NONE);
        due("memory behind the shorter", x.memory(1, 6), NONE);
        x.drop(1);
        due("memory after drop", x.memory(0, 4), NONE);
    }

    // Promises 13 and 14

    private static void info() {
        FlowEquations x = make("a:!Pa", "b:1@a", "c:F12@a", "e:Cab");
        write(x, "+1");
        infos("defined", x, 2, -1, 4, 0, 0, 10, 0);
        x.define(3);
        infos("a bad line", x, 0, 2, 4, 0, 0, 10, 0);
        x.check();
        infos("checked", x, 0, 2, 4, 1, 0, 10, 0);
        x.step(1);
        infos("an instant", x, 0, 2, 4, 1, 1, 10, 4);
        x.step(1);
        infos("two instants", x, 0, 2, 4, 1, 2, 10, 2);
        x.step(7);
        infos("nine instants", x, 0, 2, 4, 1, 9, 10, 4);
        x.drop(4);
        infos("dropped", x, 0, 2, 3, 0, 0, 7, 0);
        for (int what : new int[] {-1, 7, 8, Integer.MIN_VALUE, Integer.MAX_VALUE}) {
            due("info(" + what + ")", x.info(what), REFUSED);
        }
    }
}

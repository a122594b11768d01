/** "An object is used for at most 512 calls after it has been made": the 512th answers as due, too. */
public final class LongLifeTest extends Calls {
    private static final int CALLS = 512;

    public static void main(String[] args) {
        typing();
        defining();
        defining24();
        badLines();
        checking();
        running();
        asking();
        refused();
        Due.end();
    }

    private static void typing() {
        FlowEquations x = new FlowEquations();
        for (int call = 1; call <= CALLS; call++) {
            due("type, call " + call, x.type('!'), call <= 24 ? call : FULL);
        }
    }

    private static void defining() {
        FlowEquations x = new FlowEquations();
        for (int call = 2; call <= CALLS; call += 2) {
            due("type, call " + (call - 1), x.type('a' + call % 8), 1);
            due("define, call " + call, x.define(call / 2 % 8), 1);
        }
    }

    private static void defining24() {
        FlowEquations x = new FlowEquations();
        for (int call = 4; call <= CALLS - 4; call += 4) {
            write(x, "+?+11+11+11?+11+11+1+1!1");
            due("define, call " + call, x.define(call / 4 % 8), 6);
        }
        due("characters", x.info(5), 192);
        due("check", x.check(), 8);
        due("step", x.step(20), 20);
        due("value, call 512", x.value(7), 4);
    }

    private static void badLines() {
        FlowEquations x = new FlowEquations();
        for (int call = 3; call <= CALLS; call += 3) {
            write(x, call % 2 == 0 ? "+1" : "!!!!!!");
            due("define, call " + (call - 1), x.define(0), SYNTAX);
            due("bad place, call " + call, x.info(1), call % 2 == 0 ? 2 : 5);
        }
    }

    private static void checking() {
        FlowEquations x = make("a:F1+1Pa", "b:!Pb");
        for (int call = 6; call <= CALLS; call += 2) {
            due("check, call " + (call - 1), x.check(), 2);
            due("step, call " + call, x.step(3), 3);
        }
    }

    private static void running() {
        FlowEquations x = make("a:F1+1Pa", "b:!Pb", "c:F1+1Pc@b", "d:PPPPPa", "e:Cbc", "f:WPab@b", "g:P+gf@b", "h:CbPc");
        due("check, call 20", x.check(), 8);
        int calls = 20;
        int instants = 0;
        while (calls < CALLS - 11) {
            instants += 20;
            calls++;
            due("step, call " + calls, x.step(20), instants);
        }
        due("instants", instants, 20 * (CALLS - 11 - 20));
        due("value of a", x.value(0), instants);
        due("value of b", x.value(1), 0);
        due("value of c", x.value(2), NONE);
        due("value of d", x.value(3), instants - 5);
        due("value of e", x.value(4), instants / 2);
        due("value of h", x.value(7), instants / 2 - 1);
        due("present of a", x.present(0), instants);
        due("present of c", x.present(2), instants / 2);
        due("memory of d's outermost P", x.memory(3, 0), instants - 4);
        due("memory of f's P", x.memory(5, 1), instants);
        due("instants, call 512", x.info(4), instants);
    }

    private static void asking() {
        FlowEquations x = ready("a:F1+1Pa");
        x.step(7);
        for (int call = 5; call <= CALLS - 3; call += 4) {
            due("value, call " + call, x.value(0), 7);
            due("present, call " + (call + 1), x.present(0), 7);
            due("memory, call " + (call + 2), x.memory(0, 4), 7);
            due("info, call " + (call + 3), x.info(4), 7);
        }
    }

    private static void refused() {
        FlowEquations x = new FlowEquations();
        for (int call = 1; call < CALLS; call++) {
            int answer = call % 4 == 0 ? x.step(0) : call % 4 == 1 ? x.drop(0) : call % 4 == 2 ? x.define(8) : x.type(0);
            due("refused, call " + call, answer, REFUSED);
        }
        due("check, call 512", x.check(), 0);
    }
}

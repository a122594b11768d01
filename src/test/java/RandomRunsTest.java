/** Runs of calls, made from fixed seeds, on the class and on the model: the answers are the same. */
public final class RandomRunsTest {
    private static final int RUNS = 3000;
    private static final int CALLS = 512;
    private static final int[] EDGES = {0, 1, -1, 2, 3, 7, 100, 65536, Integer.MAX_VALUE, Integer.MIN_VALUE};
    private static final String CHARACTERS = "0123456789abcdefghpqrs+-*<=&!?PFWC";

    private long seed;
    private final int run;
    private final FlowEquations x = new FlowEquations();
    private final HistoryModel y = new HistoryModel();
    private final StringBuilder told = new StringBuilder();
    private int calls = 0;
    /** The clocks that the maker of equations goes by. */
    private final int[] clocks = new int[8];
    private static long goodChecks = 0;
    private static final long[] faults = new long[5];

    private RandomRunsTest(int run) {
        this.run = run;
        this.seed = run * 2862933555777941757L + 3037000493L;
        java.util.Arrays.fill(clocks, -1);
    }

    public static void main(String[] args) {
        for (int run = 1; run <= RUNS && !Due.anyWrong(); run++) {
            new RandomRunsTest(run).play();
        }
        System.out.println("checks without fault: " + goodChecks + ", with sort 1: " + faults[1] + ", 2: " + faults[2]
            + ", 3: " + faults[3] + ", 4: " + faults[4]);
        // A maker of runs that seldom gets past the check would show little.
        Due.due("the runs reach all that they should", goodChecks > RUNS && faults[1] > 100 && faults[2] > 100
            && faults[3] > 100 && faults[4] > 100 ? 1 : 0, 1);
        Due.end();
    }

    private int below(int bound) {
        seed = seed * 6364136223846793005L + 1442695040888963407L;
        return (int) ((seed >>> 33) % bound);
    }

    private boolean oneIn(int n) {
        return below(n) == 0;
    }

    private void due(String call, long got, long want) {
        calls++;
        told.append(call).append(" = ").append(got).append('\n');
        if (got != want && !Due.anyWrong()) {
            System.out.println("run " + run + ":\n" + told);
        }
        Due.due("run " + run + ": " + call, got, want);
    }

    private void play() {
        while (calls < CALLS && !Due.anyWrong()) {
            int what = below(8);
            if (what < 3) {
                makeProgram();
            } else if (what == 3) {
                scribble();
            } else {
                disturb();
            }
            if (oneIn(2)) {
                check();
            }
            runOn();
        }
    }

    // Making equations that mostly FIT

    private void makeProgram() {
        int count = 1 + below(8);
        for (int v = 0; v < 8; v++) {
            // Later ones mostly go by earlier ones, so that there are few rings.
            int c = v == 0 || oneIn(2) ? -1 : oneIn(25) ? below(8) : below(v);
            clock(v, c);
        }
        for (int v = 0; v < count; v++) {
            write(term(clocks[v], 1, count, v, false));
            define(v);
        }
        for (int v = count; v < 8; v++) {
            drop(v);
        }
        if (oneIn(8)) {
            drop(below(8));
        }
        check();
    }

    private String term(int k, int level, int count, int v, boolean insideP) {
        int choice = level >= 6 ? below(3) : below(12 + 2 * (3 - level));
        switch (choice) {
            case 0:
                return Integer.toString(below(10));
            case 1:
            case 2:
                return leaf(k, count, v, insideP);
            case 3:
            case 4:
                return "P" + term(k, level + 1, count, v, true);
            case 5:
                return "F" + term(k, level + 1, count, v, insideP) + term(k, level + 1, count, v, insideP);
            case 6:
                return "!" + term(k, level + 1, count, v, insideP);
            case 7:
                return "?" + term(k, level + 1, count, v, insideP) + term(k, level + 1, count, v, insideP)
                    + term(k, level + 1, count, v, insideP);
            case 8:
                return "+-*<=&".charAt(below(6)) + term(k, level + 1, count, v, insideP) + term(k, level + 1, count, v, insideP);
            default:
                return changeOfClock(k, level, count, v, insideP);
        }
    }

    private String leaf(int k, int count, int v, boolean insideP) {
        if (oneIn(60)) {
            return "" + (char) ('a' + below(8));
        }
        for (int tries = 0; tries < 12; tries++) {
            int u = below(insideP || oneIn(40) ? count : v + 1);
            if (clocks[u] == k && (insideP || u != v || oneIn(20))) {
                return "" + (char) ('a' + u);
            }
        }
        return k == -1 || oneIn(40) ? "" + (char) ('p' + below(4)) : Integer.toString(below(10));
    }

    private String changeOfClock(int k, int level, int count, int v, boolean insideP) {
        if (k != -1 && oneIn(2)) {
            return "W" + term(clocks[k], level + 1, count, v, insideP) + (char) ('a' + k);
        }
        for (int tries = 0; tries < 8; tries++) {
            int c = below(insideP ? count : Math.max(1, v));
            if (clocks[c] == k && (insideP || c != v)) {
                return "C" + (char) ('a' + c) + term(c, level + 1, count, v, insideP);
            }
        }
        return leaf(k, count, v, insideP);
    }

    // Calls of other sorts

    private void scribble() {
        int length = below(10);
        for (int i = 0; i < length; i++) {
            type(oneIn(30) ? EDGES[below(EDGES.length)] : CHARACTERS.charAt(below(CHARACTERS.length())));
        }
        if (oneIn(3)) {
            types((long) below(Integer.MAX_VALUE) << 33 ^ below(Integer.MAX_VALUE));
        }
        // Mostly operators: long lines that go deep.
        for (int i = 0; i < length; i++) {
            type("+-?PFWCa1b!".charAt(below(11)));
        }
        define(oneIn(4) ? below(12) - 2 : below(8));
    }

    private void disturb() {
        switch (below(8)) {
            case 0:
                drop(below(12) - 2);
                break;
            case 1:
                clock(below(12) - 2, below(13) - 3);
                break;
            case 2:
                clock(below(8), below(9) - 1);
                break;
            case 3:
                step(EDGES[below(EDGES.length)]);
                break;
            case 4:
                int v = below(8);
                write(term(clocks[v], 1, 8, v, false));
                define(v);
                break;
            default:
                input(below(6) - 1, EDGES[below(EDGES.length)]);
                break;
        }
    }

    private void runOn() {
        int steps = below(6);
        for (int i = 0; i < steps && calls < CALLS; i++) {
            if (oneIn(2)) {
                input(below(4), oneIn(4) ? EDGES[below(EDGES.length)] : below(3));
            }
            step(oneIn(5) ? 1 + below(20) : 1);
            ask();
        }
        ask();
    }

    private void ask() {
        for (int v = 0; v < 8; v++) {
            due("value(" + v + ")", x.value(v), y.value(v));
        }
        int v = below(10) - 1;
        due("value(" + v + ")", x.value(v), y.value(v));
        due("present(" + v + ")", x.present(v), y.present(v));
        int what = below(9) - 1;
        due("info(" + what + ")", x.info(what), y.info(what));
        for (int i = -1; i <= 24; i++) {
            // Not told as a call: it changes nothing, and there would be little room for others.
            Due.due("run " + run + ": memory(" + v + ", " + i + ")", x.memory(v, i), y.memory(v, i));
        }
        if (Due.anyWrong()) {
            System.out.println(told);
        }
    }

    private void write(String text) {
        // A line that is too long is cut, and bad.
        for (int from = 0; from < text.length() && from < 32; from += 8) {
            long eight = 0;
            for (int i = from; i < Math.min(text.length(), from + 8); i++) {
                eight = eight << 8 | text.charAt(i);
            }
            types(eight);
        }
    }

    private void type(int c) {
        due("type(" + c + ")", x.type(c), y.type(c));
    }

    private void types(long eight) {
        due("types(" + eight + ")", x.types(eight), y.types(eight));
    }

    private void define(int v) {
        due("define(" + v + ")", x.define(v), y.define(v));
        due("info(1)", x.info(1), y.info(1));
    }

    private void drop(int v) {
        due("drop(" + v + ")", x.drop(v), y.drop(v));
    }

    private void clock(int v, int c) {
        int answer = y.clock(v, c);
        due("clock(" + v + ", " + c + ")", x.clock(v, c), answer);
        if (answer == 0) {
            clocks[v] = c;
        }
    }

    private void input(int k, int value) {
        due("input(" + k + ", " + value + ")", x.input(k, value), y.input(k, value));
    }

    private void check() {
        int answer = y.check();
        due("check()", x.check(), answer);
        if (answer >= 0) {
            goodChecks++;
        } else {
            faults[-answer / 100]++;
        }
    }

    private void step(int n) {
        due("step(" + n + ")", x.step(n), y.step(n));
    }
}

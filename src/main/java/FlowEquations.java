import java.util.Arrays;

/**
 * Flow equations: eight variables defined by equations on values at instants, checked as a whole
 * and then run instant by instant. The words in capitals are those of the document.
 *
 * <p>An equation is kept as it was typed, and each of its TERMS is known by the place of its first
 * character. The TERMS in a TERM stand behind that character, so a walk from the last place to the
 * first meets every part before the whole, and a walk the other way every whole before its parts.
 *
 * <p>A set of variables is an int in which bit v stands for variable v.
 */
public final class FlowEquations {
    public static final int DONE = 0;
    public static final int REFUSED = -1;
    public static final int FULL = -2;
    public static final int SYNTAX = -3;
    public static final int STATE = -4;
    public static final long NONE = -1000000000000L;

    private static final int VARIABLES = 8;
    private static final int INPUTS = 4;
    private static final int LINE_ROOM = 24;
    private static final int DEEPEST = 6;
    private static final int MOST_PARTS = 3;
    private static final int MOST_INSTANTS = 20;
    private static final String OPERATORS = "+-*<=&!?PFWC";

    /** The CLOCK ON variable c is the number c; this one is ON none. */
    private static final int BASE = -1;
    /** Stands for a place or a variable where there is none. */
    private static final int ABSENT = -1;
    /** Every fault's answer is below it. */
    private static final int NO_FAULT = 0;

    private final int[] line;
    private int lineLength;
    private int latestBadPlace;
    private final Program program;
    private final Checker checker;
    private final Run run;
    /** Lines are read into it, so that a bad one leaves the variable's EQUATION as it was. */
    private Equation draft;
    private boolean ready;

    public FlowEquations() {
        line = new int[LINE_ROOM];
        lineLength = 0;
        latestBadPlace = ABSENT;
        program = new Program();
        checker = new Checker(program);
        run = new Run(program);
        draft = new Equation();
        ready = false;
    }

    public int type(int c) {
        if (!isOfLine(c)) {
            return REFUSED;
        }
        if (lineLength >= LINE_ROOM) {
            return FULL;
        }
        line[lineLength] = c;
        lineLength++;
        return lineLength;
    }

    public int types(long eight) {
        for (int shift = 56; shift >= 0; shift -= 8) {
            int c = (int) (eight >>> shift) & 0xFF;
            int answer = c == 0 ? lineLength : type(c);
            if (answer < 0) {
                return answer;
            }
        }
        return lineLength;
    }

    public int define(int v) {
        if (!isVariable(v)) {
            return REFUSED;
        }
        boolean good = draft.readLine(line, lineLength);
        lineLength = 0;
        if (!good) {
            latestBadPlace = draft.badPlace;
            return SYNTAX;
        }
        int depth = draft.depth;
        draft = program.exchange(v, draft);
        becomeUnready();
        return depth;
    }

    public int drop(int v) {
        if (!program.defines(v)) {
            return REFUSED;
        }
        program.equations[v].length = 0;
        becomeUnready();
        return DONE;
    }

    public int clock(int v, int c) {
        if (!isVariable(v) || (c != BASE && !isVariable(c))) {
            return REFUSED;
        }
        program.clocks[v] = c;
        becomeUnready();
        return DONE;
    }

    public int input(int k, int value) {
        if (k < 0 || k >= INPUTS) {
            return REFUSED;
        }
        run.inputs[k] = value;
        return DONE;
    }

    public int check() {
        run.restart();
        int fault = checker.firstFault();
        ready = fault == NO_FAULT;
        if (!ready) {
            return fault;
        }
        run.arrange(checker.needs);
        return program.definedCount();
    }

    public int step(int n) {
        if (n < 1 || n > MOST_INSTANTS) {
            return REFUSED;
        }
        if (!ready) {
            return STATE;
        }
        for (int i = 0; i < n; i++) {
            run.passInstant();
        }
        return run.instants;
    }

    public long value(int v) {
        if (!isVariable(v) || !run.isPresent(v)) {
            return NONE;
        }
        return run.values[v];
    }

    public int present(int v) {
        if (!isVariable(v)) {
            return REFUSED;
        }
        return run.presences[v];
    }

    public long memory(int v, int i) {
        if (!ready || !program.defines(v)) {
            return NONE;
        }
        Equation equation = program.equations[v];
        if (i < 0 || i >= equation.length || !equation.remembersAt(i)) {
            return NONE;
        }
        return equation.memories[i];
    }

    public int info(int what) {
        switch (what) {
            case 0:
                return lineLength;
            case 1:
                return latestBadPlace;
            case 2:
                return program.definedCount();
            case 3:
                return ready ? 1 : 0;
            case 4:
                return run.instants;
            case 5:
                return program.characterCount();
            case 6:
                return Integer.bitCount(run.presentNow);
            default:
                return REFUSED;
        }
    }

    private void becomeUnready() {
        ready = false;
        run.restart();
    }

    private static boolean isVariable(int v) {
        return v >= 0 && v < VARIABLES;
    }

    private static boolean contains(int set, int v) {
        return (set >> v & 1) != 0;
    }

    private static boolean isOfLine(int c) {
        return isDigit(c) || isVariableName(c) || isInputName(c) || isOperator(c);
    }

    private static boolean isDigit(int c) {
        return c >= '0' && c <= '9';
    }

    private static boolean isVariableName(int c) {
        return c >= 'a' && c < 'a' + VARIABLES;
    }

    private static boolean isInputName(int c) {
        return c >= 'p' && c < 'p' + INPUTS;
    }

    private static boolean isOperator(int c) {
        for (int i = 0; i < OPERATORS.length(); i++) {
            if (OPERATORS.charAt(i) == c) {
                return true;
            }
        }
        return false;
    }

    /** Answers how many TERMS stand in one that begins with the character. */
    private static int partCount(int c) {
        switch (c) {
            case '?':
                return 3;
            case '+':
            case '-':
            case '*':
            case '<':
            case '=':
            case '&':
            case 'F':
                return 2;
            case '!':
            case 'P':
            case 'W':
            case 'C':
                return 1;
            default:
                return 0;
        }
    }

    /** A line that was read: its characters, what each TERM is made of, and its memories. */
    private static final class Equation {
        private final int[] text;
        /** 0 where the variable has no EQUATION. */
        private int length;
        private int depth;
        private int badPlace;
        /** The places of the TERMS in the TERM at a place: a row of three for each place. */
        private final int[] parts;
        /** The variable whose name is the TERM at a place or, for a W or C, belongs to it. */
        private final int[] named;
        /** False for the names that belong to a W or C: they stand in the text but are no TERMS. */
        private final boolean[] isTerm;
        private final boolean[] insideP;
        /** The CLOCK that the TERM at a place must FIT. */
        private final int[] termClocks;
        private final int[] termValues;
        /** What the value of the TERM in the P or C at a place was last. */
        private final int[] memories;

        private Equation() {
            text = new int[LINE_ROOM];
            length = 0;
            depth = 0;
            badPlace = ABSENT;
            parts = new int[LINE_ROOM * MOST_PARTS];
            named = new int[LINE_ROOM];
            isTerm = new boolean[LINE_ROOM];
            insideP = new boolean[LINE_ROOM];
            termClocks = new int[LINE_ROOM];
            termValues = new int[LINE_ROOM];
            memories = new int[LINE_ROOM];
        }

        /** Answers if the line is good; its depth or its bad place is known afterwards. */
        private boolean readLine(int[] line, int lineLength) {
            System.arraycopy(line, 0, text, 0, lineLength);
            Arrays.fill(parts, ABSENT);
            length = lineLength;
            depth = 0;
            badPlace = ABSENT;
            int end = readTerm(0, 1, false);
            if (end != ABSENT && end < length) {
                badPlace = end;
            }
            return badPlace == ABSENT;
        }

        /** Answers the place behind the TERM, or ABSENT if a bad place was found. */
        private int readTerm(int place, int level, boolean afterP) {
            if (!mayBeginTerm(place, level)) {
                badPlace = place;
                return ABSENT;
            }
            int c = text[place];
            depth = Math.max(depth, level);
            named[place] = isVariableName(c) ? c - 'a' : ABSENT;
            isTerm[place] = true;
            insideP[place] = afterP;
            int next = place + 1;
            if (c == 'C') {
                next = readName(next, place);
            }
            next = readParts(next, place, level);
            if (c == 'W') {
                next = readName(next, place);
            }
            return next;
        }

        /** At the deepest level an operator is bad already, since its TERMS would lie too deep. */
        private boolean mayBeginTerm(int place, int level) {
            return place < length
                && (level < DEEPEST || (level == DEEPEST && partCount(text[place]) == 0));
        }

        private int readParts(int from, int owner, int level) {
            int c = text[owner];
            int next = from;
            for (int k = 0; k < partCount(c) && next != ABSENT; k++) {
                parts[owner * MOST_PARTS + k] = next;
                next = readTerm(next, level + 1, insideP[owner] || c == 'P');
            }
            return next;
        }

        /** Reads the name that belongs to a W or C, unless a bad place was found before it. */
        private int readName(int place, int owner) {
            if (place == ABSENT) {
                return ABSENT;
            }
            if (place >= length || !isVariableName(text[place])) {
                badPlace = place;
                return ABSENT;
            }
            named[owner] = text[place] - 'a';
            named[place] = ABSENT;
            isTerm[place] = false;
            return place + 1;
        }

        private int allNames() {
            int set = 0;
            for (int place = 0; place < length; place++) {
                if (named[place] != ABSENT) {
                    set |= 1 << named[place];
                }
            }
            return set;
        }

        private int namesOutsideP() {
            int set = 0;
            for (int place = 0; place < length; place++) {
                if (named[place] != ABSENT && !insideP[place]) {
                    set |= 1 << named[place];
                }
            }
            return set;
        }

        /** Answers if the equation FITS the CLOCK, and lays down the CLOCK of every TERM in it. */
        private boolean fits(int ownClock, int[] clocks) {
            termClocks[0] = ownClock;
            for (int place = 0; place < length; place++) {
                if (isTerm[place]) {
                    if (!fitsAt(place, clocks)) {
                        return false;
                    }
                    handClockDown(place, clocks);
                }
            }
            return true;
        }

        /** Looks at the TERM's own character alone: the TERMS in it have places of their own. */
        private boolean fitsAt(int place, int[] clocks) {
            int c = text[place];
            int k = termClocks[place];
            if (isVariableName(c) || c == 'C') {
                return k == clocks[named[place]];
            }
            if (isInputName(c)) {
                return k == BASE;
            }
            return c != 'W' || k == named[place];
        }

        private void handClockDown(int place, int[] clocks) {
            int c = text[place];
            int handed = termClocks[place];
            if (c == 'W') {
                handed = clocks[named[place]];
            } else if (c == 'C') {
                handed = named[place];
            }
            for (int k = 0; k < partCount(c); k++) {
                termClocks[parts[place * MOST_PARTS + k]] = handed;
            }
        }

        /** Answers the value of a TERM in the TERM at a place, 0 if it has no such part. */
        private int partValue(int place, int k) {
            int part = parts[place * MOST_PARTS + k];
            return part == ABSENT ? 0 : termValues[part];
        }

        private boolean remembersAt(int place) {
            return text[place] == 'P' || text[place] == 'C';
        }
    }

    /** The equations and clocks of all variables. */
    private static final class Program {
        private final Equation[] equations;
        private final int[] clocks;

        private Program() {
            equations = new Equation[VARIABLES];
            clocks = new int[VARIABLES];
            for (int v = 0; v < VARIABLES; v++) {
                equations[v] = new Equation();
                clocks[v] = BASE;
            }
        }

        /** Answers the variable's equation of before, whose room can be used again. */
        private Equation exchange(int v, Equation equation) {
            Equation before = equations[v];
            equations[v] = equation;
            return before;
        }

        private boolean defines(int v) {
            return isVariable(v) && equations[v].length > 0;
        }

        private int definedCount() {
            int count = 0;
            for (int v = 0; v < VARIABLES; v++) {
                if (defines(v)) {
                    count++;
                }
            }
            return count;
        }

        private int characterCount() {
            int count = 0;
            for (int v = 0; v < VARIABLES; v++) {
                count += equations[v].length;
            }
            return count;
        }

        /** Answers the set of the variable that the CLOCK is ON, empty for the BASE. */
        private int clockSet(int v) {
            return clocks[v] == BASE ? 0 : 1 << clocks[v];
        }
    }

    /** THE CHECK: each search answers the least variable with a fault of its sort, or ABSENT. */
    private static final class Checker {
        private final Program program;
        /** The set that each variable NEEDS, empty for one without an equation. */
        private final int[] needs;

        private Checker(Program checked) {
            program = checked;
            needs = new int[VARIABLES];
        }

        private int firstFault() {
            int v = leastMissing();
            if (v != ABSENT) {
                return faultAnswer(1, v);
            }
            v = leastOnClockRing();
            if (v != ABSENT) {
                return faultAnswer(2, v);
            }
            v = leastUnfit();
            if (v != ABSENT) {
                return faultAnswer(3, v);
            }
            v = leastNeedingItself();
            return v == ABSENT ? NO_FAULT : faultAnswer(4, v);
        }

        private static int faultAnswer(int sort, int v) {
            return -100 * sort - v;
        }

        private int leastMissing() {
            int mentioned = 0;
            for (int v = 0; v < VARIABLES; v++) {
                if (program.defines(v)) {
                    mentioned |= program.equations[v].allNames() | program.clockSet(v);
                }
            }
            for (int v = 0; v < VARIABLES; v++) {
                if (contains(mentioned, v) && !program.defines(v)) {
                    return v;
                }
            }
            return ABSENT;
        }

        private int leastOnClockRing() {
            for (int v = 0; v < VARIABLES; v++) {
                if (program.defines(v) && clocksLeadBackTo(v)) {
                    return v;
                }
            }
            return ABSENT;
        }

        /** A ring has no more members than there are variables, so that many moves show it. */
        private boolean clocksLeadBackTo(int v) {
            int at = program.clocks[v];
            for (int moves = 1; moves < VARIABLES && at != BASE && at != v; moves++) {
                at = program.clocks[at];
            }
            return at == v;
        }

        private int leastUnfit() {
            for (int v = 0; v < VARIABLES; v++) {
                if (program.defines(v)
                    && !program.equations[v].fits(program.clocks[v], program.clocks)) {
                    return v;
                }
            }
            return ABSENT;
        }

        private int leastNeedingItself() {
            gatherNeeds();
            for (int v = 0; v < VARIABLES; v++) {
                if (contains(needs[v], v)) {
                    return v;
                }
            }
            return ABSENT;
        }

        private void gatherNeeds() {
            for (int v = 0; v < VARIABLES; v++) {
                needs[v] = program.defines(v)
                    ? program.equations[v].namesOutsideP() | program.clockSet(v) : 0;
            }
            // Once a variable had its turn in the outer loop, every way through it is known.
            for (int between = 0; between < VARIABLES; between++) {
                for (int v = 0; v < VARIABLES; v++) {
                    if (contains(needs[v], between)) {
                        needs[v] |= needs[between];
                    }
                }
            }
        }
    }

    /** The INSTANTS since the check. */
    private static final class Run {
        private final Program program;
        private final int[] inputs;
        private final int[] values;
        private final int[] presences;
        private final int[] order;
        private int ordered;
        private int presentNow;
        /** A set of CLOCKS has bit k + 1 for CLOCK k, since the BASE is -1. */
        private int activeNow;
        /** The CLOCKS that were ACTIVE at an INSTANT before this one. */
        private int begunClocks;
        private int instants;

        private Run(Program running) {
            program = running;
            inputs = new int[INPUTS];
            values = new int[VARIABLES];
            presences = new int[VARIABLES];
            order = new int[VARIABLES];
            ordered = 0;
            presentNow = 0;
            activeNow = 0;
            begunClocks = 0;
            instants = 0;
        }

        /** Makes it so that no INSTANT has been; the inputs stay. */
        private void restart() {
            Arrays.fill(values, 0);
            Arrays.fill(presences, 0);
            for (int v = 0; v < VARIABLES; v++) {
                Arrays.fill(program.equations[v].memories, 0);
            }
            presentNow = 0;
            activeNow = 0;
            begunClocks = 0;
            instants = 0;
        }

        /** What is NEEDED has fewer NEEDS than what NEEDS it, so to go by their number will do. */
        private void arrange(int[] needs) {
            ordered = 0;
            for (int count = 0; count < VARIABLES; count++) {
                for (int v = 0; v < VARIABLES; v++) {
                    if (program.defines(v) && Integer.bitCount(needs[v]) == count) {
                        order[ordered] = v;
                        ordered++;
                    }
                }
            }
        }

        private boolean isPresent(int v) {
            return contains(presentNow, v);
        }

        private boolean isActive(int clock) {
            return (activeNow >> (clock + 1) & 1) != 0;
        }

        private boolean hasBegun(int clock) {
            return (begunClocks >> (clock + 1) & 1) != 0;
        }

        /**
         * Memories change only when all values are known: a variable may be settled before those
         * whose names stand inside its P.
         */
        private void passInstant() {
            presentNow = 0;
            activeNow = 1 << (BASE + 1);
            for (int i = 0; i < ordered; i++) {
                settle(order[i]);
            }
            for (int i = 0; i < ordered; i++) {
                remember(program.equations[order[i]]);
            }
            begunClocks |= activeNow;
            instants++;
        }

        private void settle(int v) {
            if (!isActive(program.clocks[v])) {
                return;
            }
            Equation equation = program.equations[v];
            evaluate(equation);
            values[v] = equation.termValues[0];
            presentNow |= 1 << v;
            presences[v]++;
            if (values[v] != 0) {
                activeNow |= 1 << (v + 1);
            }
        }

        /**
         * Also for a variable that isn't PRESENT: a P or C inside its W may be on a faster CLOCK
         * than its own.
         */
        private void remember(Equation equation) {
            evaluate(equation);
            for (int place = 0; place < equation.length; place++) {
                if (equation.remembersAt(place) && isActive(rememberingClock(equation, place))) {
                    equation.memories[place] = equation.partValue(place, 0);
                }
            }
        }

        private int rememberingClock(Equation equation, int place) {
            return equation.text[place] == 'C' ? equation.named[place] : equation.termClocks[place];
        }

        /**
         * Gives every place a value, also those whose CLOCK isn't ACTIVE and, while values are
         * being settled, those inside a P: no TERM outside takes these up.
         */
        private void evaluate(Equation equation) {
            for (int place = equation.length - 1; place >= 0; place--) {
                equation.termValues[place] = valueAt(equation, place);
            }
        }

        private int valueAt(Equation equation, int place) {
            int c = equation.text[place];
            if (isDigit(c)) {
                return c - '0';
            }
            if (isVariableName(c)) {
                return values[c - 'a'];
            }
            if (isInputName(c)) {
                return inputs[c - 'p'];
            }
            return operatorValue(equation, place);
        }

        private int operatorValue(Equation equation, int place) {
            int first = equation.partValue(place, 0);
            int second = equation.partValue(place, 1);
            int third = equation.partValue(place, 2);
            switch (equation.text[place]) {
                case '+':
                    return first + second;
                case '-':
                    return first - second;
                case '*':
                    return first * second;
                case '<':
                    return first < second ? 1 : 0;
                case '=':
                    return first == second ? 1 : 0;
                case '&':
                    return first != 0 && second != 0 ? 1 : 0;
                case '!':
                    return first == 0 ? 1 : 0;
                case '?':
                    return first != 0 ? second : third;
                case 'P':
                    return equation.memories[place];
                case 'F':
                    return hasBegun(equation.termClocks[place]) ? second : first;
                case 'W':
                    return first;
                case 'C':
                    return isActive(equation.named[place]) ? first : equation.memories[place];
                default:
                    return 0;
            }
        }
    }
}

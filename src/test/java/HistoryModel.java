import java.util.ArrayList;
import java.util.HashMap;
import java.util.HashSet;
import java.util.List;
import java.util.Map;
import java.util.Set;

/**
 * The document told another way: it keeps the inputs of every instant and works values out of the
 * whole history, with no memories, and finds bad places by trying to go on with the line.
 */
final class HistoryModel {
    private static final String CHARACTERS = "0123456789abcdefghpqrs+-*<=&!?PFWC";
    private static final int BASE = -1;

    private record Term(char sign, int place, List<Term> parts, int variable) {
        int depth() {
            int deepest = 0;
            for (Term part : parts) {
                deepest = Math.max(deepest, part.depth());
            }
            return deepest + 1;
        }
    }

    private String line = "";
    private int badPlace = -1;
    private final String[] texts = new String[8];
    private final int[] clocks = {BASE, BASE, BASE, BASE, BASE, BASE, BASE, BASE};
    private final int[] inputs = new int[4];
    private boolean ready = false;
    private final List<int[]> inputsAt = new ArrayList<>();
    private final List<Map<Integer, Integer>> known = new ArrayList<>();

    // Reading

    private static int termCount(char sign) {
        return sign == '?' ? 3 : "+-*<=&F".indexOf(sign) >= 0 ? 2 : "!PWC".indexOf(sign) >= 0 ? 1 : 0;
    }

    private static boolean isName(char c) {
        return c >= 'a' && c <= 'h';
    }

    /** Answers null if no term begins there; at[0] is moved behind it. */
    private static Term term(String text, int[] at) {
        if (at[0] >= text.length()) {
            return null;
        }
        int place = at[0];
        char sign = text.charAt(at[0]++);
        int variable = isName(sign) ? sign - 'a' : -1;
        if (sign == 'C') {
            variable = name(text, at);
        }
        List<Term> parts = new ArrayList<>();
        for (int i = 0; i < termCount(sign); i++) {
            Term part = term(text, at);
            if (part == null) {
                return null;
            }
            parts.add(part);
        }
        if (sign == 'W') {
            variable = name(text, at);
        }
        boolean nameMissing = (sign == 'W' || sign == 'C') && variable < 0;
        return nameMissing ? null : new Term(sign, place, parts, variable);
    }

    private static int name(String text, int[] at) {
        return at[0] < text.length() && isName(text.charAt(at[0])) ? text.charAt(at[0]++) - 'a' : -1;
    }

    private static Term whole(String text) {
        int[] at = {0};
        Term term = term(text, at);
        return term == null || at[0] < text.length() || term.depth() > 6 ? null : term;
    }

    /** A name stands for a term and for a name, so if a line can be made good, names do it. */
    private static boolean beginsGoodLine(String start) {
        StringBuilder text = new StringBuilder(start);
        for (int more = 0; more < 60; more++) {
            if (whole(text.toString()) != null) {
                return true;
            }
            text.append('a');
        }
        return false;
    }

    private static int badPlaceOf(String text) {
        for (int i = 0; i < text.length(); i++) {
            if (!beginsGoodLine(text.substring(0, i + 1))) {
                return i;
            }
        }
        return text.length();
    }

    private Term equation(int v) {
        return whole(texts[v]);
    }

    // The calls

    int type(int c) {
        if (c < 0 || c > 255 || CHARACTERS.indexOf((char) c) < 0) {
            return -1;
        }
        if (line.length() == 24) {
            return -2;
        }
        line += (char) c;
        return line.length();
    }

    int types(long eight) {
        for (int i = 0; i < 8; i++) {
            int c = (int) (eight >>> (56 - 8 * i) & 255);
            if (c != 0) {
                int answer = type(c);
                if (answer < 0) {
                    return answer;
                }
            }
        }
        return line.length();
    }

    int define(int v) {
        if (v < 0 || v > 7) {
            return -1;
        }
        String text = line;
        line = "";
        Term term = whole(text);
        if (term == null) {
            badPlace = badPlaceOf(text);
            return -3;
        }
        texts[v] = text;
        forget();
        return term.depth();
    }

    int drop(int v) {
        if (v < 0 || v > 7 || texts[v] == null) {
            return -1;
        }
        texts[v] = null;
        forget();
        return 0;
    }

    int clock(int v, int c) {
        if (v < 0 || v > 7 || c < -1 || c > 7) {
            return -1;
        }
        clocks[v] = c;
        forget();
        return 0;
    }

    int input(int k, int value) {
        if (k < 0 || k > 3) {
            return -1;
        }
        inputs[k] = value;
        return 0;
    }

    private void forget() {
        ready = false;
        inputsAt.clear();
        known.clear();
    }

    // The check

    int check() {
        forget();
        for (int sort = 1; sort <= 4; sort++) {
            for (int v = 0; v < 8; v++) {
                if (hasFault(sort, v)) {
                    return -100 * sort - v;
                }
            }
        }
        ready = true;
        return defined();
    }

    private int defined() {
        int count = 0;
        for (String text : texts) {
            count += text == null ? 0 : 1;
        }
        return count;
    }

    private boolean hasFault(int sort, int v) {
        if (sort == 1) {
            return texts[v] == null && isMentioned(v);
        }
        if (texts[v] == null) {
            return false;
        }
        if (sort == 2) {
            Set<Integer> above = new HashSet<>();
            for (int c = clocks[v]; c != BASE && above.add(c); c = clocks[c]) {
                if (c == v) {
                    return true;
                }
            }
            return false;
        }
        if (sort == 3) {
            return !fits(equation(v), clocks[v]);
        }
        Set<Integer> needed = new HashSet<>();
        gatherNeeds(v, needed);
        return needed.contains(v);
    }

    private boolean isMentioned(int v) {
        for (int u = 0; u < 8; u++) {
            if (texts[u] != null && (clocks[u] == v || texts[u].indexOf((char) ('a' + v)) >= 0)) {
                return true;
            }
        }
        return false;
    }

    private boolean fits(Term term, int k) {
        char sign = term.sign();
        if (isName(sign)) {
            return clocks[term.variable()] == k;
        }
        if (sign >= 'p' && sign <= 's') {
            return k == BASE;
        }
        if (sign == 'W') {
            return k == term.variable() && fits(term.parts().get(0), clocks[term.variable()]);
        }
        if (sign == 'C') {
            return k == clocks[term.variable()] && fits(term.parts().get(0), term.variable());
        }
        for (Term part : term.parts()) {
            if (!fits(part, k)) {
                return false;
            }
        }
        return true;
    }

    private void gatherNeeds(int v, Set<Integer> needed) {
        Set<Integer> direct = new HashSet<>();
        if (clocks[v] != BASE) {
            direct.add(clocks[v]);
        }
        namesOutsideP(equation(v), direct);
        for (int u : direct) {
            if (needed.add(u)) {
                gatherNeeds(u, needed);
            }
        }
    }

    private static void namesOutsideP(Term term, Set<Integer> names) {
        if (term.sign() == 'P') {
            return;
        }
        if (term.variable() >= 0) {
            names.add(term.variable());
        }
        for (Term part : term.parts()) {
            namesOutsideP(part, names);
        }
    }

    // Running

    int step(int n) {
        if (n < 1 || n > 20) {
            return -1;
        }
        if (!ready) {
            return -4;
        }
        for (int i = 0; i < n; i++) {
            inputsAt.add(inputs.clone());
            known.add(new HashMap<>());
            // Worked out at once, so that no value's history is followed far back.
            for (int v = 0; v < 8; v++) {
                if (texts[v] != null && isPresent(v, instants() - 1)) {
                    valueOf(v, instants() - 1);
                }
            }
        }
        return instants();
    }

    private int instants() {
        return inputsAt.size();
    }

    private boolean isActive(int k, int instant) {
        return k == BASE || (isPresent(k, instant) && valueOf(k, instant) != 0);
    }

    private boolean isPresent(int v, int instant) {
        return isActive(clocks[v], instant);
    }

    private int valueOf(int v, int instant) {
        Integer value = known.get(instant).get(v);
        if (value == null) {
            value = valueOf(equation(v), clocks[v], instant);
            known.get(instant).put(v, value);
        }
        return value;
    }

    /** Answers the latest instant up to the one told at which the clock was ACTIVE, or -1. */
    private int latestActive(int k, int upTo) {
        int instant = upTo;
        while (instant >= 0 && !isActive(k, instant)) {
            instant--;
        }
        return instant;
    }

    private int valueOf(Term term, int k, int instant) {
        char sign = term.sign();
        if (sign >= '0' && sign <= '9') {
            return sign - '0';
        }
        if (isName(sign)) {
            return valueOf(term.variable(), instant);
        }
        if (sign >= 'p' && sign <= 's') {
            return inputsAt.get(instant)[sign - 'p'];
        }
        Term first = term.parts().get(0);
        if (sign == 'P') {
            int before = latestActive(k, instant - 1);
            return before < 0 ? 0 : valueOf(first, k, before);
        }
        if (sign == 'F') {
            return valueOf(latestActive(k, instant - 1) < 0 ? first : term.parts().get(1), k, instant);
        }
        if (sign == 'W') {
            return valueOf(first, clocks[term.variable()], instant);
        }
        if (sign == 'C') {
            int latest = latestActive(term.variable(), instant);
            return latest < 0 ? 0 : valueOf(first, term.variable(), latest);
        }
        return calculated(term, k, instant);
    }

    private int calculated(Term term, int k, int instant) {
        long[] values = new long[3];
        for (int i = 0; i < term.parts().size(); i++) {
            values[i] = valueOf(term.parts().get(i), k, instant);
        }
        long answer = switch (term.sign()) {
            case '+' -> values[0] + values[1];
            case '-' -> values[0] - values[1];
            case '*' -> values[0] * values[1];
            case '<' -> values[0] < values[1] ? 1 : 0;
            case '=' -> values[0] == values[1] ? 1 : 0;
            case '&' -> values[0] != 0 && values[1] != 0 ? 1 : 0;
            case '!' -> values[0] == 0 ? 1 : 0;
            case '?' -> values[0] != 0 ? values[1] : values[2];
            default -> throw new IllegalStateException("no such sign: " + term.sign());
        };
        return (int) answer;
    }

    // What can be asked

    long value(int v) {
        if (v < 0 || v > 7 || texts[v] == null || instants() == 0 || !isPresent(v, instants() - 1)) {
            return FlowEquations.NONE;
        }
        return valueOf(v, instants() - 1);
    }

    int present(int v) {
        if (v < 0 || v > 7) {
            return -1;
        }
        int count = 0;
        for (int instant = 0; instant < instants(); instant++) {
            count += texts[v] != null && isPresent(v, instant) ? 1 : 0;
        }
        return count;
    }

    long memory(int v, int i) {
        if (v < 0 || v > 7 || texts[v] == null || !ready) {
            return FlowEquations.NONE;
        }
        return memory(equation(v), clocks[v], i);
    }

    private long memory(Term term, int k, int place) {
        char sign = term.sign();
        int inner = sign == 'W' ? clocks[term.variable()] : sign == 'C' ? term.variable() : k;
        if (term.place() == place && (sign == 'P' || sign == 'C')) {
            int latest = latestActive(inner, instants() - 1);
            return latest < 0 ? 0 : valueOf(term.parts().get(0), inner, latest);
        }
        for (Term part : term.parts()) {
            long found = memory(part, inner, place);
            if (found != FlowEquations.NONE) {
                return found;
            }
        }
        return FlowEquations.NONE;
    }

    int info(int what) {
        int characters = 0;
        int presentNow = 0;
        for (int v = 0; v < 8; v++) {
            characters += texts[v] == null ? 0 : texts[v].length();
            presentNow += value(v) == FlowEquations.NONE ? 0 : 1;
        }
        int[] answers = {line.length(), badPlace, defined(), ready ? 1 : 0, instants(), characters, presentNow};
        return what < 0 || what >= answers.length ? -1 : answers[what];
    }
}

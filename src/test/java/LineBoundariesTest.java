/** Each sentence about the line, its TERMS and promises 1 to 4 that names a boundary case. */
public final class LineBoundariesTest extends Calls {
    private static final String[] FORMS = {"+11", "-11", "*11", "<11", "=11", "&11", "!1", "?111", "P1", "F11", "W1a", "Ca1"};

    public static void main(String[] args) {
        variablesHaveNoEquationsAtFirst();
        inputsAreZeroAtFirst();
        clocksAreTheBaseAtFirst();
        lineHoldsTwentyFour();
        lineIsEmptyAtFirst();
        charactersOfTheLine();
        formsOfTerms();
        namesOfWAndC();
        depthIsAtMostSix();
        depthIsThatOfTheDeepestTerm();
        goodLineIsOneTerm();
        badPlaceIsTheFirst();
        badPlaceLooksAtLinesOfAnyLength();
        badPlaceIsTheLengthElse();
        newObject();
        typeRefusesBeforeItIsFull();
        typeAnswersTheLength();
        typesHighestFirst();
        typesLeavesZerosOut();
        typesStopsAtTheFirstRefusal();
        typesAnswersTheLength();
        defineRange();
        defineEmptiesTheLine();
        defineTellsTheBadPlace();
        defineAnswersTheDepth();
        Due.end();
    }

    private static String ones(int count) {
        return "1".repeat(count);
    }

    // Terms

    private static void variablesHaveNoEquationsAtFirst() {
        sentence("VARIABLES 0 .. 7, called a .. h, each with an EQUATION or not, none at first");
        for (int v = 0; v < 8; v++) {
            FlowEquations x = new FlowEquations();
            due("drop at first", x.drop(v), REFUSED);
            due("equations at first", x.info(2), 0);
            define(x, (char) ('a' + v), "1");
            due("drop of " + v, x.drop(v), DONE);
            // The name stands for that variable and no other.
            define(x, v == 0 ? 'b' : 'a', "" + (char) ('a' + v));
            due("check of a name", x.check(), -100 - v);
        }
    }

    private static void inputsAreZeroAtFirst() {
        sentence("INPUTS 0 .. 3, called p .. s, each an int, 0 at first");
        FlowEquations x = ready("a:p", "b:q", "c:r", "d:s");
        x.step(1);
        for (int k = 0; k < 4; k++) {
            due("input at first", x.value(k), 0);
        }
        for (int k = 0; k < 4; k++) {
            for (int value : new int[] {LEAST, -1, 0, 1, GREATEST}) {
                due("input", x.input(k, value), DONE);
                x.step(1);
                due("value of input " + k, x.value(k), value);
            }
            x.input(k, 40 + k);
        }
        x.step(1);
        for (int k = 0; k < 4; k++) {
            due("value of input " + k, x.value(k), 40 + k);
        }
    }

    private static void clocksAreTheBaseAtFirst() {
        sentence("Every variable has a CLOCK: the BASE (at first), or ON a variable");
        for (int v = 0; v < 8; v++) {
            char name = (char) ('a' + v);
            int c = v == 0 ? 1 : 0;
            FlowEquations x = make(name + ":p", (char) ('a' + c) + ":0");
            due("check with the first clock", x.check(), 2);
            x.step(1);
            due("value on the first clock", x.value(v), 0);
            x.clock(v, c);
            due("check ON a variable", x.check(), -300 - v);
            define(x, name, "5");
            due("check ON a variable", x.check(), 2);
            x.step(1);
            due("value ON a variable", x.value(v), NONE);
        }
    }

    private static void lineHoldsTwentyFour() {
        sentence("THE LINE is a text of at most 24 characters");
        FlowEquations x = new FlowEquations();
        write(x, ones(23));
        due("the 24th", x.type('1'), 24);
        due("the 25th", x.type('1'), FULL);
        due("length", x.info(0), 24);
        // All of the 24 are in the equation.
        depth("+?+11+11+11?+11+11+1+1!1", 6);
    }

    private static void lineIsEmptyAtFirst() {
        sentence("THE LINE is a text .. empty at first");
        FlowEquations x = new FlowEquations();
        due("length at first", x.info(0), 0);
        due("the first", x.type('7'), 1);
        due("define", x.define(0), 1);
        due("define of the line at first", new FlowEquations().define(0), SYNTAX);
    }

    private static void charactersOfTheLine() {
        sentence("digits, a .. h, p .. s, and + - * < = & ! ? P F W C");
        for (int c = 0; c < 256; c++) {
            boolean isOne = CHARACTERS.indexOf((char) c) >= 0;
            due("type of code " + c, new FlowEquations().type(c), isOne ? 1 : REFUSED);
            due("types of code " + c, new FlowEquations().types(c), isOne ? 1 : c == 0 ? 0 : REFUSED);
        }
        for (char c : CHARACTERS.toCharArray()) {
            due("type of a code 256 above", new FlowEquations().type(c + 256), REFUSED);
            due("type of a code 65536 above", new FlowEquations().type(c + 65536), REFUSED);
            due("type of a code 256 below", new FlowEquations().type(c - 256), REFUSED);
        }
    }

    private static void formsOfTerms() {
        sentence("A TERM is one of ..");
        for (char leaf : "0123456789abcdefghpqrs".toCharArray()) {
            depth("" + leaf, 1);
        }
        for (String form : FORMS) {
            depth(form, 2);
            badPlace(form.substring(0, form.length() - 1), form.length() - 1);
            badPlace(form + "1", form.length());
            badPlace(form + form.charAt(0), form.length());
        }
    }

    private static void namesOfWAndC() {
        sentence("W, a TERM and a name a .. h;   C, a name a .. h and a TERM");
        for (char c : CHARACTERS.toCharArray()) {
            if (c >= 'a' && c <= 'h') {
                depth("W1" + c, 2);
                depth("C" + c + "1", 2);
                depth("W!" + c + c, 3);
                depth("C" + c + c, 2);
            } else {
                badPlace("W1" + c, 2);
                badPlace("C" + c + "1", 1);
                badPlace("W" + "!1" + c, 3);
            }
        }
    }

    private static void depthIsAtMostSix() {
        sentence("Its DEPTH .. must not be above 6");
        for (String form : FORMS) {
            // The TERMS in the form are at level 6 and then, with one ! more before it, at level 7.
            depth("!!!!" + form, 6);
            badPlace("!!!!!" + form, 5);
            depth("P?1WCa" + form + "a1", 6);
            badPlace("P?1WCa!" + form + "a1", 7);
        }
        depth("+++++111111", 6);
        badPlace("++++++1111111", 5);
        depth("+1+1+1+1+11", 6);
        badPlace("+1+1+1+1+1+11", 10);
        depth("?1?1?1?1?1111111", 6);
        badPlace("?1?1?1?1?1?1", 10);
        // At level 6 the names of a W or C are no deeper TERMS.
        depth("WWWWW1aaaaa", 6);
        badPlace("WWWWWW1aaaaaa", 5);
        depth("CaCaCaCaCa1", 6);
        badPlace("CaCaCaCaCaCa1", 10);
    }

    private static void depthIsThatOfTheDeepestTerm() {
        sentence("Its DEPTH is 1, or one more than the greatest of the TERMS in it");
        for (String two : new String[] {"+", "-", "*", "<", "=", "&", "F"}) {
            depth(two + "1!!2", 4);
            depth(two + "!!12", 4);
            depth(two + "!1!!2", 4);
        }
        depth("?!!!123", 5);
        depth("?1!!!23", 5);
        depth("?12!!!3", 5);
        depth("?!1!!2!3", 4);
        depth("!!1", 3);
        depth("P!!1", 4);
        depth("W!!1a", 4);
        depth("Ca!!1", 4);
    }

    private static void goodLineIsOneTerm() {
        sentence("A good LINE is one TERM and nothing more");
        badPlace("", 0);
        badPlace("11", 1);
        badPlace("aa", 1);
        badPlace("1+11", 1);
        badPlace("+111", 3);
        badPlace("!1!1", 2);
        badPlace("W1aa", 3);
        badPlace("!!!!!11", 6);
        badPlace(ones(24), 1);
    }

    private static void badPlaceIsTheFirst() {
        sentence("the number (from 0) of the first character with which no good line .. begins up to and with it");
        badPlace("Cp", 1);
        badPlace("+CpCqW1r", 2);
        badPlace("W1pW1q1", 2);
        badPlace("+W1p1", 3);
        badPlace("1C1W", 1);
        badPlace("!!!!!!", 5);
        badPlace("!!!!!!!!Cp", 5);
        badPlace("C1!!!!!!", 1);
        badPlace("+1!!!!!", 6);
        badPlace("?1!!!!112", 8);
        badPlace("?!!!!!1", 5);
        badPlace("?1?1?1?1?1!", 10);
    }

    private static void badPlaceLooksAtLinesOfAnyLength() {
        sentence("no good line, of any length");
        // With these 24 a good line begins, but only one that is longer than a line can be.
        badPlace("+?+11+11+11?+11+11+1+1+1", 24);
        badPlace("????1+11+11+11?111?111?1", 24);
        badPlace("?+++1111?1?1++11+11?111?", 24);
        // Of these the last one is bad by itself, though it is the last that the line can hold.
        badPlace("+?+11+11+11?+11+11+1+11+", 23);
        badPlace("?+++1111?1?1++11+11?11C1", 23);
    }

    private static void badPlaceIsTheLengthElse() {
        sentence("or the line's length if there is none");
        badPlace("", 0);
        for (String form : new String[] {"?+11!1F11", "WCaP1b", "!!!!!1", "+1+1+1+1+11", "WWWWW1aaaaa", "CaCaCaCaCa1"}) {
            depth(form, form.startsWith("?") ? 3 : form.equals("WCaP1b") ? 4 : 6);
            for (int length = 0; length < form.length(); length++) {
                badPlace(form.substring(0, length), length);
            }
        }
        badPlace("!!!!!", 5);
    }

    // Promises 1 to 4

    private static void newObject() {
        sentence("No equations, all CLOCKS the BASE");
        FlowEquations x = new FlowEquations();
        infos("new", x, 0, -1, 0, 0, 0, 0, 0);
        due("check of no equations", x.check(), 0);
        due("step of no equations", x.step(1), 1);
        due("present of no equations", x.info(6), 0);
        for (int v = 0; v < 8; v++) {
            define(x, (char) ('a' + v), "ppqqrrss".substring(v, v + 1));
        }
        due("an input FITS every clock", x.check(), 8);
        x.step(1);
        due("all are present", x.info(6), 8);
        // A second object has nothing of the first.
        infos("another", new FlowEquations(), 0, -1, 0, 0, 0, 0, 0);
    }

    private static void typeRefusesBeforeItIsFull() {
        sentence("Not one of the line's: REFUSED; else, it has 24: FULL");
        FlowEquations x = new FlowEquations();
        write(x, ones(23));
        due("a wrong one to 23", x.type('i'), REFUSED);
        due("a right one to 23", x.type('h'), 24);
        for (int c : new int[] {'i', 'o', 't', '`', '/', ':', ' ', 'p' - 256, 0, -1, 256 + '1', LEAST, GREATEST}) {
            due("a wrong one to 24", x.type(c), REFUSED);
        }
        for (char c : CHARACTERS.toCharArray()) {
            due("a right one to 24", x.type(c), FULL);
        }
        due("length", x.info(0), 24);
    }

    private static void typeAnswersTheLength() {
        sentence("type: Answers its length");
        FlowEquations x = new FlowEquations();
        for (int length = 1; length <= 24; length++) {
            due("type", x.type(CHARACTERS.charAt(length)), length);
            due("length", x.info(0), length);
        }
    }

    private static void typesHighestFirst() {
        sentence("The eight bytes of the number, highest first");
        FlowEquations x = new FlowEquations();
        due("types", x.types(eight("-?192?04")), 8);
        due("types", x.types(eight("6")), 9);
        due("define", x.define(0), 3);
        flow(x, 'a', 3);
        x.types(0x2D39000000000000L);
        x.types(0x34L);
        due("the highest and the lowest byte", x.define(0), 2);
        flow(x, 'a', 5);
    }

    private static void typesLeavesZerosOut() {
        sentence("those that are 0 left out");
        FlowEquations x = new FlowEquations();
        due("types of 0", x.types(0), 0);
        for (int place = 0; place < 8; place++) {
            due("one among zeros", x.types((long) '1' << 8 * place), place + 1);
        }
        due("zeros between", x.types(0x3100310031003100L), 12);
        due("zeros between", x.types(0x0031003100310031L), 16);
        due("none is 0", x.types(eight(ones(8))), 24);
        due("types of 0 to a full line", x.types(0), 24);
    }

    private static void typesStopsAtTheFirstRefusal() {
        sentence("at the first that is REFUSED or FULL this stops, those before it stay, and that is the answer");
        for (int before = 0; before < 8; before++) {
            FlowEquations x = new FlowEquations();
            due("REFUSED", x.types(eight(ones(before) + "i" + "2222222".substring(before))), REFUSED);
            due("those before it", x.info(0), before);
            FlowEquations y = new FlowEquations();
            write(y, ones(24 - before));
            due("FULL", y.types(eight(ones(before) + "2" + "iiiiiii".substring(before))), FULL);
            due("those before it", y.info(0), 24);
            FlowEquations z = new FlowEquations();
            write(z, ones(24 - before));
            due("REFUSED, though full", z.types(eight(ones(before) + "i" + "2222222".substring(before))), REFUSED);
            due("those before it", z.info(0), 24);
        }
        FlowEquations x = new FlowEquations();
        x.types(eight("-8i9"));
        x.types(eight("3i"));
        due("what stayed", x.define(0), 2);
        flow(x, 'a', 5);
        for (int high : new int[] {0x80, 0xB1, 0xE1, 0xFF}) {
            due("a byte above 127", new FlowEquations().types((long) high << 56), REFUSED);
            due("a byte above 127", new FlowEquations().types(high), REFUSED);
        }
    }

    private static void typesAnswersTheLength() {
        sentence("types: Answers the line's length");
        for (int count = 0; count <= 8; count++) {
            FlowEquations x = new FlowEquations();
            due("types", x.types(eight(ones(count))), count);
            due("types again", x.types(eight(ones(count))), 2 * count);
            due("and again", x.types(eight(ones(count))), 3 * count);
            due("length", x.info(0), 3 * count);
        }
    }

    private static void defineRange() {
        sentence("variable v (0 .. 7, else REFUSED)");
        for (int v = 0; v < 8; v++) {
            FlowEquations x = new FlowEquations();
            x.type('1');
            due("define", x.define(v), 1);
            due("drop", x.drop(v), DONE);
        }
        for (int v : NO_VARIABLES) {
            FlowEquations x = new FlowEquations();
            due("define of an empty line", x.define(v), REFUSED);
            x.type('1');
            due("define of a good line", x.define(v), REFUSED);
            x.type('1');
            due("define of a bad line", x.define(v), REFUSED);
            infos("refused", x, 2, -1, 0, 0, 0, 0, 0);
        }
    }

    private static void defineEmptiesTheLine() {
        sentence("the line is empty afterwards (but if REFUSED)");
        FlowEquations x = new FlowEquations();
        write(x, "+12");
        x.define(-1);
        x.define(8);
        due("length after REFUSED", x.info(0), 3);
        x.define(0);
        due("length after a good line", x.info(0), 0);
        flow(x, 'a', 3);
        write(x, ones(24));
        x.define(0);
        due("length after a bad line", x.info(0), 0);
        due("type after a bad line", x.type('5'), 1);
        due("define after a bad line", x.define(0), 1);
        flow(x, 'a', 5);
        due("define of the line that is empty now", x.define(0), SYNTAX);
        due("its bad place", x.info(1), 0);
        due("the equation stays", x.info(5), 1);
    }

    private static void defineTellsTheBadPlace() {
        sentence("Not good: SYNTAX, and the latest bad place becomes its BAD PLACE");
        FlowEquations x = new FlowEquations();
        due("bad place at first", x.info(1), -1);
        define(x, 'a', "1");
        due("bad place after a good line", x.info(1), -1);
        due("a bad line", define(x, 'a', "+1"), SYNTAX);
        due("its bad place", x.info(1), 2);
        due("another", define(x, 'b', "11111"), SYNTAX);
        due("its bad place", x.info(1), 1);
        define(x, 'a', "2");
        due("bad place after a good line", x.info(1), 1);
        write(x, "!!!");
        x.define(8);
        due("bad place after REFUSED", x.info(1), 1);
        x.define(7);
        due("bad place of what was refused", x.info(1), 3);
        x.define(7);
        due("bad place of an empty line", x.info(1), 0);
    }

    private static void defineAnswersTheDepth() {
        sentence("define: Answers the DEPTH");
        String[] lines = {"h", "P1", "F1!2", "?1PP23", "W!!!1a", "Ca+1*2&3=45"};
        for (int i = 0; i < lines.length; i++) {
            depth(lines[i], i + 1);
        }
        // Of the new line, not of one before it.
        FlowEquations x = new FlowEquations();
        due("a deep line", define(x, 'a', "!!!!!1"), 6);
        due("a bad line", define(x, 'a', "!!!!!!1"), SYNTAX);
        due("a low line", define(x, 'a', "1"), 1);
        due("a low line for another", define(x, 'b', "!1"), 2);
    }
}

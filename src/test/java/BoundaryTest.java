/**
 * Each sentence of the document that names a boundary case: the least and the greatest that is taken, the next
 * beyond each end, an empty object and a full one. A run is told in lines: "call = answer", several with ';'
 * between them (a boolean counts 1 or 0), or one of the short forms that Run.line knows.
 */
public final class BoundaryTest {
    private static final String INDEX = "throws.IndexOutOfBoundsException";
    private static final String ARGUMENT = "throws.IllegalArgumentException";
    private static final String STATE = "throws.IllegalStateException";
    private static final int MOST_CALLS = 512;
    /** Beside the nearest wrong ones some that an index or a product would wrap round to a right one. */
    private static final int[] BEYOND_FIVE =
            {6, -6, 7, -7, 251, 256, -256, 65536, 65531, 1 << 28, 1 << 29, 1 << 30, -(1 << 30),
                Integer.MAX_VALUE, Integer.MIN_VALUE, Integer.MIN_VALUE + 5};
    private static final int[] FAR_INDICES =
            {-1, -4, 5, 16, 256, 65536, 1 << 28, 1 << 29, 1 << 30, -(1 << 30), Integer.MAX_VALUE, Integer.MIN_VALUE};

    private static int runs = 0;
    private static int wrong = 0;

    public static void main(String[] args) {
        emptyObject();
        fullObject();
        letters();
        exponents();
        orderOfNumbers();
        baseBeginsAboveZero();
        baseIsSmallAhead();
        relationsFromNoneToAll();
        ranksFromNoneToAll();
        hullIsNotByZero();
        factorsBelowTheRank();
        firstOfSeveralExceptions();
        elementMakesFour();
        putOfAnotherOne();
        putBeyond();
        atBeyond();
        multiplyToTheEnds();
        multiplyBeyondTheEnds();
        multiplyAtEachLetter();
        multiplyOfNothing();
        multiplyRefused();
        rowsRefused();
        testOfTheEnds();
        testRefused();
        testOfNone();
        timesOfNone();
        timesOfRows();
        countFromNoneToAll();
        clearOfAll();
        firstQuestionBehindAChange();
        oldAnswersAreGone();
        greatestAnswers();
        lastCall();
        System.out.println(runs + " runs, " + wrong + " wrong");
        if (wrong != 0) {
            System.exit(1);
        }
    }

    private static void run(String sentence, String... lines) {
        Run run = new Run(sentence);
        for (String line : lines) {
            run.line(line);
        }
        runs++;
        wrong += run.wrong;
    }

    // "StructureRows(): No ELEMENTS; no POWER is KNOWN."
    private static void emptyObject() {
        run("a new object has no elements", "count() = 0", "rank() = 0; relations() = 0",
                "at(0, 0) = " + INDEX, "put(0, 0, 0) = " + INDEX, "multiply(0, 1, 1) = " + INDEX,
                "relation(0, 0) = " + INDEX, "group(0, 0) = " + INDEX, "hull(0, 0) = " + INDEX, "factor(0) = " + INDEX);
        run("a new object knows no power", "times(0) = " + STATE, "times(-1) = " + STATE);
        run("a new object's group has 1 alone", "test(0, 0, 0, 0) = 1", "times(0) = " + INDEX,
                "test(1, 0, 0, 0) = 0", "times(0) = " + STATE, "test(0, 0, 0, -5) = 0");
        run("a new object takes clear", "clear() = 0", "count() = 0", "times(0) = " + STATE, "element() = 0");
    }

    // "there are up to 4"
    private static void fullObject() {
        run("a full object answers everywhere",
                "make 5 0 0 0", "make 0 -5 0 0", "make 0 0 5 0", "make 0 0 0 -5", "count() = 4",
                "group: 5 0 0 0 / 0 5 0 0 / 0 0 5 0 / 0 0 0 5", "hull: 1 0 0 0 / 0 1 0 0 / 0 0 1 0 / 0 0 0 1",
                "relations:", "factors: 5 5 5 5", "test(5, -5, 5, -5) = 1", "times: 1 -1 1 -1",
                "test(1, 2, -3, 4) = 5", "times: 1 2 -3 4");
        run("a full object of 1 alone", "make 0 0 0 0", "make 0 0 0 0", "make 0 0 0 0", "make 0 0 0 0", "group:",
                "hull:", "factors:", "relations: 1 0 0 0 / 0 1 0 0 / 0 0 1 0 / 0 0 0 1",
                "test(0, 0, 0, 0) = 1", "times:", "test(0, 0, 0, 1) = 0");
        run("a full object of the same thrice", "make 1 2 3 4", "make 1 2 3 4", "make 1 2 3 4", "make -1 -2 -3 -4",
                "group: 1 2 3 4", "hull: 1 2 3 4", "factors: 1", "relations: 1 0 0 1 / 0 1 0 1 / 0 0 1 1");
    }

    // "four LETTERS, 0 .. 3"
    private static void letters() {
        run("letters 0 and 3 are taken", "make 0 0 0 0", "put(0, 0, 1) = 1; put(0, 3, 2) = 1",
                "at(0, 0) = 1; at(0, 3) = 2",
                "group(0, 0) = 1; group(0, 3) = 2", "hull(0, 0) = 1; hull(0, 3) = 2");
        for (int letter : new int[] {-1, 4, 5, 1 << 30, Integer.MIN_VALUE, Integer.MAX_VALUE}) {
            run("letter " + letter + " is refused", "make 2 0 0 4", "put(0, " + letter + ", 1) = " + INDEX,
                    "at(0, " + letter + ") = " + INDEX, "group(0, " + letter + ") = " + INDEX,
                    "hull(0, " + letter + ") = " + INDEX, "at 0: 2 0 0 4");
        }
    }

    // "four EXPONENTS, whole numbers -5 .. 5"
    private static void exponents() {
        for (int v = -5; v <= 5; v++) {
            String changed = v == 0 ? "0" : "1";
            run("exponent " + v + " is taken", "make 0 0 0 0", "put(0, 2, " + v + ") = " + changed, "at(0, 2) = " + v,
                    "put(0, 2, " + v + ") = 0", "test(0, 0, " + v + ", 0) = 1");
        }
    }

    // "numbers 0, 1 .. in the order in which they came"; "1 has all 0"
    private static void orderOfNumbers() {
        run("numbers come in order, each a 1", "element() = 0", "at 0: 0 0 0 0", "put(0, 0, 5) = 1", "element() = 1",
                "at 1: 0 0 0 0", "put(1, 3, -5) = 1", "element() = 2", "at 2: 0 0 0 0", "element() = 3",
                "at 3: 0 0 0 0", "at 0: 5 0 0 0", "at 1: 0 0 0 -5");
    }

    // "each row begins (isn't 0) further right than the one ahead, with a number above 0"
    private static void baseBeginsAboveZero() {
        run("a beginning below 0 is turned", "make -5 5 -1 0", "group: 5 -5 1 0", "hull: 5 -5 1 0");
        run("a beginning at the last letter", "make 0 0 0 -5", "group: 0 0 0 5", "hull: 0 0 0 1");
        run("rows that begin alike", "make 5 1 0 0", "make 5 0 0 -1", "group: 5 0 0 -1 / 0 1 0 1");
        run("rows that begin in turn", "make 0 0 0 -1", "make 0 0 -2 0", "make 0 -3 0 0", "make -4 0 0 0",
                "group: 4 0 0 0 / 0 3 0 0 / 0 0 2 0 / 0 0 0 1");
        run("a relation's beginning is above 0", "make 5 0 0 0", "make 5 0 0 0", "relations: 1 -1");
        run("a relation begins at the last element", "make 5 0 0 0", "make 0 0 0 0", "relations: 0 1");
    }

    // "each ahead has 0 .. BEGINNING - 1 at that place"
    private static void baseIsSmallAhead() {
        run("BEGINNING - 1 stays", "make 1 4 0 0", "make 0 5 0 0", "group: 1 4 0 0 / 0 5 0 0");
        run("BEGINNING becomes 0", "make 1 5 0 0", "make 0 5 0 0", "group: 1 0 0 0 / 0 5 0 0");
        run("0 stays", "make 1 0 0 0", "make 0 5 0 0", "group: 1 0 0 0 / 0 5 0 0");
        run("-1 becomes BEGINNING - 1", "make 1 -1 0 0", "make 0 5 0 0", "group: 1 4 0 0 / 0 5 0 0");
        run("-BEGINNING becomes 0", "make 1 -5 0 0", "make 0 5 0 0", "group: 1 0 0 0 / 0 5 0 0");
        run("a beginning of 1 leaves 0", "make 5 4 -3 2", "make 0 1 0 0", "make 0 0 1 0", "make 0 0 0 1",
                "group: 5 0 0 0 / 0 1 0 0 / 0 0 1 0 / 0 0 0 1");
        run("the hull keeps BEGINNING - 1", "make 1 1 0 0", "make 0 2 1 0", "hull: 1 1 0 0 / 0 2 1 0");
        run("the hull's BEGINNING becomes 0", "make 1 2 0 0", "make 0 2 1 0", "hull: 1 0 -1 0 / 0 2 1 0");
        run("the hull's -1 becomes BEGINNING - 1", "make 1 -1 0 0", "make 0 2 1 0", "hull: 1 1 1 0 / 0 2 1 0");
        run("relations keep BEGINNING - 1", "make 3 0 0 0", "make 3 0 0 0", "make 5 0 0 0",
                "relations: 1 4 -3 / 0 5 -3");
        run("relations reach 0", "make -5 0 0 0", "make 3 0 0 0", "make 5 0 0 0", "relations: 1 0 1 / 0 5 -3");
    }

    // "RELATIONS are rows of whole numbers, one for each ELEMENT"
    private static void relationsFromNoneToAll() {
        run("relations of no element", "relations:", "relation(0, 0) = " + INDEX);
        run("relations of one that isn't 1", "make 0 0 0 1", "relations:");
        run("relations of one that is 1", "make 0 0 0 0", "relations: 1", "relation(0, 1) = " + INDEX);
        run("one relation of two", "make 4 0 0 0", "make 2 0 0 0", "relations: 1 -2", "relation(0, 2) = " + INDEX,
                "relation(1, 0) = " + INDEX);
        run("the last number of the last relation", "make 0 0 0 0", "make 0 0 0 0", "make 0 0 0 0", "make 0 0 0 0",
                "relation(3, 3) = 1", "relation(4, 3) = " + INDEX, "relation(3, 4) = " + INDEX,
                "relation(-1, 0) = " + INDEX, "relation(0, -1) = " + INDEX);
        run("none is left of four", "make 1 0 0 0", "make 0 1 0 0", "make 0 0 1 0", "make 0 0 0 1", "relations:");
    }

    // "its RANK is how many rows its BASE has"
    private static void ranksFromNoneToAll() {
        run("each rank from 0 to 4 and back", "rank() = 0", "make 0 0 0 0", "rank() = 0", "put(0, 3, 1) = 1",
                "rank() = 1",
                "make 0 0 1 0", "rank() = 2", "make 0 1 0 0", "rank() = 3", "make 1 0 0 0",
                "rank() = 4; relations() = 0",
                "put(3, 0, 0) = 1", "rank() = 3; relations() = 1", "multiply(2, 1, 1) = 1; multiply(1, 2, -1) = 1",
                "rank() = 3", "put(2, 2, 0) = 1", "rank() = 2; relations() = 2", "clear() = 0", "rank() = 0");
        run("more elements than rank", "make 5 -5 5 -5", "make -5 5 -5 5", "make 1 -1 1 -1",
                "rank() = 1; relations() = 2");
    }

    // "some whole multiple of which, not by 0, is in the GROUP"
    private static void hullIsNotByZero() {
        run("0 times a row is no reason", "make 5 0 0 0", "hull: 1 0 0 0", "test(0, 1, 0, 0) = 0");
        run("1 alone has no roots", "make 0 0 0 0", "hull:", "test(0, 0, 1, 0) = 0");
        run("a root below 0 too", "make -4 -4 0 0", "hull: 1 1 0 0", "test(-1, -1, 0, 0) = 4", "times: -1");
    }

    // "FACTOR k, for k below the RANK"; "(1 for none)"
    private static void factorsBelowTheRank() {
        run("no factor without rank", "factors:", "make 0 0 0 0", "factors:", "factor(-1) = " + INDEX);
        run("factor 0 goes through 1", "make 0 0 0 -5", "factors: 5");
        run("rank 2", "make 4 0 0 0", "make 0 2 0 0", "factors: 2 4", "factor(2) = " + INDEX, "factor(-1) = " + INDEX);
        run("rank 3 of four", "make 3 0 0 0", "make 0 3 0 0", "make 0 0 3 0", "make 3 3 3 0", "factors: 3 3 3",
                "factor(3) = " + INDEX);
        run("rank 4", "make 1 0 0 0", "make 0 1 0 0", "make 0 0 1 0", "make 0 0 0 5", "factors: 1 1 1 5",
                "factor(4) = " + INDEX);
        for (int k : FAR_INDICES) {
            run("factor " + k, "make 1 0 0 0", "make 0 5 0 0", "factor(" + k + ") = " + INDEX, "factors: 1 5");
        }
    }

    // "Of several the one that stands first behind "throws" is thrown; nothing changes."
    private static void firstOfSeveralExceptions() {
        String[] make = {"make 2 0 0 0", "make 0 3 0 0", "test(1, 1, 0, 0) = 6"};
        run("put: no such index ahead of a wrong exponent", with(make, "put(2, 0, 6) = " + INDEX,
                "put(-1, 0, -6) = " + INDEX, "put(0, 4, 6) = " + INDEX, "put(1, -1, -6) = " + INDEX,
                "put(2, 4, 6) = " + INDEX, "at 0: 2 0 0 0", "at 1: 0 3 0 0", "times: 3 2"));
        run("multiply: no such index ahead of a wrong power", with(make, "multiply(0, 2, 6) = " + INDEX,
                "multiply(2, 0, -6) = " + INDEX, "multiply(2, 3, 6) = " + INDEX, "multiply(-1, 0, 6) = " + INDEX,
                "at 0: 2 0 0 0", "at 1: 0 3 0 0", "times: 3 2"));
        run("multiply: no such index ahead of the same one", with(make, "multiply(2, 2, 1) = " + INDEX,
                "multiply(-1, -1, 6) = " + INDEX, "multiply(4, 4, 0) = " + INDEX, "times: 3 2"));
        run("multiply: the same one and a wrong power", with(make, "multiply(0, 0, 6) = " + ARGUMENT, "times: 3 2"));
        run("times: none known ahead of no such row", "make 2 0 0 0", "times(1) = " + STATE, "times(-1) = " + STATE,
                "times(4) = " + STATE, "test(1, 0, 0, 0) = 2", "times(1) = " + INDEX, "times: 1");
    }

    private static String[] with(String[] ahead, String... behind) {
        String[] all = java.util.Arrays.copyOf(ahead, ahead.length + behind.length);
        System.arraycopy(behind, 0, all, ahead.length, behind.length);
        return all;
    }

    // "One ELEMENT more, 1: its number; no POWER is KNOWN then. IllegalStateException: there are 4."
    private static void elementMakesFour() {
        run("the fourth is taken, the fifth refused", "element() = 0", "element() = 1", "element() = 2",
                "element() = 3",
                "element() = " + STATE, "count() = 4", "element() = " + STATE, "count() = 4");
        run("the fifth changes nothing", "make 2 0 0 0", "make 0 3 0 0", "make 0 0 4 0", "make 0 0 0 5",
                "test(1, 1, 1, 1) = 60", "element() = " + STATE, "times: 30 20 15 12", "at 0: 2 0 0 0", "at 3: 0 0 0 5",
                "group: 2 0 0 0 / 0 3 0 0 / 0 0 4 0 / 0 0 0 5");
        run("no power is known behind a new one", "make 2 0 0 0", "test(2, 0, 0, 0) = 1", "element() = 1",
                "times(0) = " + STATE, "group: 2 0 0 0", "relations: 0 1");
        run("behind clear four more", "element() = 0", "element() = 1", "element() = 2", "element() = 3", "clear() = 0",
                "element() = 0", "element() = 1", "element() = 2", "element() = 3", "element() = " + STATE);
    }

    // "An EXPONENT: whether it is another one; then no POWER is KNOWN."
    private static void putOfAnotherOne() {
        run("the same one changes nothing", "make 5 -5 0 0", "test(5, -5, 0, 0) = 1", "put(0, 0, 5) = 0",
                "put(0, 1, -5) = 0", "put(0, 2, 0) = 0", "times: 1", "at 0: 5 -5 0 0");
        run("another one forgets the power", "make 5 -5 0 0", "test(5, -5, 0, 0) = 1", "put(0, 3, 1) = 1",
                "times(0) = " + STATE, "put(0, 3, 0) = 1", "times(0) = " + STATE, "group: 5 -5 0 0");
        run("from one end to the other", "make -5 0 0 5", "put(0, 0, 5) = 1", "put(0, 3, -5) = 1", "at 0: 5 0 0 -5",
                "put(0, 0, -5) = 1", "put(0, 3, 5) = 1", "at 0: -5 0 0 5");
        run("the last place of a full object", "make 0 0 0 0", "make 0 0 0 0", "make 0 0 0 0", "make 0 0 0 0",
                "put(3, 3, -5) = 1", "at 3: 0 0 0 -5", "at 2: 0 0 0 0", "put(0, 0, 5) = 1", "at 0: 5 0 0 0",
                "at 1: 0 0 0 0");
    }

    // put: "IllegalArgumentException: it isn't -5 .. 5"; "no such ELEMENT, LETTER"
    private static void putBeyond() {
        for (int v : BEYOND_FIVE) {
            run("put of " + v, "make 1 2 3 4", "test(2, 4, 6, 8) = " + ARGUMENT, "test(1, 2, 3, 4) = 1",
                    "put(0, 0, " + v + ") = " + ARGUMENT, "put(0, 3, " + v + ") = " + ARGUMENT, "at 0: 1 2 3 4",
                    "times: 1", "put(1, 0, " + v + ") = " + INDEX);
        }
        for (int index : FAR_INDICES) {
            run("put at " + index, "make 1 2 3 4", "make 4 3 2 1", "test(5, 5, 5, 5) = 1",
                    "put(" + index + ", 0, 5) = " + INDEX, "put(0, " + index + ", 5) = " + INDEX,
                    "at 0: 1 2 3 4", "at 1: 4 3 2 1", "times(0) = 5");
        }
        run("the element behind the last", "make 1 2 3 4", "put(1, 0, 1) = " + INDEX, "element() = 1",
                "put(1, 0, 1) = 1",
                "put(2, 0, 1) = " + INDEX, "at 1: 1 0 0 0");
    }

    // at: "no such ELEMENT, LETTER"
    private static void atBeyond() {
        run("the element behind the last", "at(0, 0) = " + INDEX, "element() = 0", "at(0, 0) = 0; at(0, 3) = 0",
                "at(1, 0) = " + INDEX, "element() = 1", "element() = 2", "element() = 3", "at(3, 3) = 0",
                "at(4, 0) = " + INDEX, "at(3, 4) = " + INDEX, "at(-1, 0) = " + INDEX, "at(0, -1) = " + INDEX);
        for (int index : FAR_INDICES) {
            run("at " + index, "make 1 2 3 4", "test(1, 2, 3, 4) = 1", "at(" + index + ", 0) = " + INDEX,
                    "at(0, " + index + ") = " + INDEX, "times: 1");
        }
    }

    // "An ELEMENT becomes its product with another one to a power, if that has EXPONENTS -5 .. 5"
    private static void multiplyToTheEnds() {
        run("to 5 and -5", "make 4 -4 0 0", "make 1 -1 0 0", "multiply(0, 1, 1) = 1", "at 0: 5 -5 0 0",
                "at 1: 1 -1 0 0");
        run("to 5 and -5 by power 5", "make 0 0 0 0", "make 1 -1 0 0", "multiply(0, 1, 5) = 1", "at 0: 5 -5 0 0");
        run("to 5 and -5 by power -5", "make 0 0 0 0", "make 1 -1 0 0", "multiply(0, 1, -5) = 1", "at 0: -5 5 0 0");
        run("from 5 to -5", "make 5 -5 5 5", "make 5 -5 5 5", "multiply(1, 0, -2) = 1", "at 1: -5 5 -5 -5",
                "at 0: 5 -5 5 5", "multiply(1, 0, 2) = 1", "at 1: 5 -5 5 5");
        run("by 2 to the power -5", "make 5 -5 0 0", "make 2 -2 0 0", "multiply(0, 1, -5) = 1", "at 0: -5 5 0 0");
        run("to 1", "make 5 -5 5 -5", "make 1 -1 1 -1", "multiply(0, 1, -5) = 1", "at 0: 0 0 0 0", "rank() = 1",
                "relations: 1 0");
        run("the last with the first", "make 1 2 3 4", "make 0 0 0 0", "make 0 0 0 0", "make 1 1 1 1",
                "multiply(3, 0, 1) = 1", "at 3: 2 3 4 5", "multiply(0, 3, -1) = 1", "at 0: -1 -1 -1 -1");
    }

    // "whether it does": one that leaves -5 .. 5 changes nothing
    private static void multiplyBeyondTheEnds() {
        run("to 6", "make 5 0 0 0", "make 1 0 0 0", "test(5, 0, 0, 0) = 1", "multiply(0, 1, 1) = 0", "at 0: 5 0 0 0",
                "times: 5");
        run("to -6", "make -5 0 0 0", "make 1 0 0 0", "test(5, 0, 0, 0) = 1", "multiply(0, 1, -1) = 0",
                "at 0: -5 0 0 0",
                "times: 5");
        run("to 30 and -30", "make 5 0 0 0", "make -5 0 0 0", "multiply(0, 1, -5) = 0", "multiply(1, 0, -5) = 0",
                "at 0: 5 0 0 0", "at 1: -5 0 0 0");
        run("again until it doesn't", "make 0 0 0 0", "make 0 0 2 0", "multiply(0, 1, 1) = 1", "multiply(0, 1, 1) = 1",
                "multiply(0, 1, 1) = 0", "at 0: 0 0 4 0", "group: 0 0 2 0");
    }

    private static void multiplyAtEachLetter() {
        for (int letter = 0; letter < 4; letter++) {
            int sign = letter % 2 == 0 ? 1 : -1;
            int[] end = {1, 1, 1, 1};
            end[letter] = 4 * sign;
            int[] beyond = {1, 1, 1, 1};
            beyond[letter] = 5 * sign;
            int[] by = {2, 2, 2, 2};
            by[letter] = sign;
            int[] product = {3, 3, 3, 3};
            product[letter] = 5 * sign;
            run("to the end at letter " + letter, "make " + text(end), "make " + text(by), "multiply(0, 1, 1) = 1",
                    "at 0: " + text(product));
            run("beyond the end at letter " + letter + " alone", "make " + text(beyond), "make " + text(by),
                    "multiply(0, 1, 1) = 0", "at 0: " + text(beyond), "at 1: " + text(by));
        }
    }

    private static String text(int[] row) {
        return row[0] + " " + row[1] + " " + row[2] + " " + row[3];
    }

    // "then no POWER is KNOWN (also if nothing is another one)"
    private static void multiplyOfNothing() {
        run("by power 0", "make 5 -5 0 0", "make 5 5 5 5", "test(5, -5, 0, 0) = 1", "multiply(0, 1, 0) = 1",
                "at 0: 5 -5 0 0", "times(0) = " + STATE);
        run("by 1 to the power 5", "make 5 -5 0 0", "make 0 0 0 0", "test(5, -5, 0, 0) = 1", "multiply(0, 1, 5) = 1",
                "at 0: 5 -5 0 0", "times(0) = " + STATE);
        run("by 1 to the power -5", "make 0 0 0 0", "make 0 0 0 0", "test(0, 0, 0, 0) = 1", "multiply(0, 1, -5) = 1",
                "at 0: 0 0 0 0", "times(0) = " + STATE);
        run("the group is the same one", "make 1 0 0 0", "make 0 1 0 0", "test(1, 1, 0, 0) = 1",
                "multiply(0, 1, 1) = 1",
                "times(0) = " + STATE, "group: 1 0 0 0 / 0 1 0 0");
    }

    // "IllegalArgumentException: both are the same ELEMENT, or the power isn't -5 .. 5."
    private static void multiplyRefused() {
        for (int number = 0; number < 4; number++) {
            String same = number + ", " + number;
            run("element " + number + " by itself", "make 1 0 0 0", "make 0 1 0 0", "make 0 0 1 0", "make 0 0 0 1",
                    "test(1, 1, 1, 1) = 1", "multiply(" + same + ", 1) = " + ARGUMENT,
                    "multiply(" + same + ", 0) = " + ARGUMENT, "times: 1 1 1 1",
                    "group: 1 0 0 0 / 0 1 0 0 / 0 0 1 0 / 0 0 0 1");
        }
        run("same exponents are not the same element", "make 1 0 0 0", "make 1 0 0 0", "multiply(0, 1, 1) = 1",
                "at 0: 2 0 0 0");
        for (int power : BEYOND_FIVE) {
            run("power " + power, "make 4 0 0 0", "make 0 0 0 0", "make 4 0 0 0", "test(1, 0, 0, 0) = 4",
                    "multiply(0, 1, " + power + ") = " + ARGUMENT, "multiply(1, 0, " + power + ") = " + ARGUMENT,
                    "multiply(0, 2, " + power + ") = " + ARGUMENT, "at 0: 4 0 0 0", "at 1: 0 0 0 0", "times: 1");
        }
        for (int index : FAR_INDICES) {
            run("multiply with " + index, "make 1 0 0 0", "make 0 1 0 0", "test(1, 1, 0, 0) = 1",
                    "multiply(" + index + ", 0, 1) = " + INDEX, "multiply(0, " + index + ", 1) = " + INDEX,
                    "multiply(" + index + ", " + index + ", 1) = " + INDEX, "at 0: 1 0 0 0", "times: 1 1");
        }
        run("the element behind the last", "make 1 0 0 0", "multiply(0, 1, 1) = " + INDEX,
                "multiply(1, 0, 1) = " + INDEX,
                "element() = 1", "multiply(1, 0, 1) = 1", "multiply(1, 2, 1) = " + INDEX, "at 1: 1 0 0 0");
    }

    // relation, group, hull: "no such ELEMENT, LETTER, row"
    private static void rowsRefused() {
        for (int index : FAR_INDICES) {
            run("row or place " + index, "make 2 0 0 0", "make 0 2 0 0", "make 2 2 0 0", "test(1, 1, 0, 0) = 2",
                    "relation(" + index + ", 0) = " + INDEX, "relation(0, " + index + ") = " + INDEX,
                    "group(" + index + ", 0) = " + INDEX, "group(0, " + index + ") = " + INDEX,
                    "hull(" + index + ", 0) = " + INDEX, "hull(0, " + index + ") = " + INDEX,
                    "times(" + index + ") = " + INDEX, "times: 1 1",
                    "group: 2 0 0 0 / 0 2 0 0", "hull: 1 0 0 0 / 0 1 0 0", "relations: 1 1 -1");
        }
        run("rows go as the rank goes", "make 0 0 0 5", "group(0, 3) = 5; hull(0, 3) = 1", "group(1, 3) = " + INDEX,
                "hull(1, 3) = " + INDEX, "put(0, 3, 0) = 1", "group(0, 3) = " + INDEX, "hull(0, 3) = " + INDEX,
                "relation(0, 0) = 1", "put(0, 0, -5) = 1", "group(0, 0) = 5; hull(0, 0) = 1",
                "relation(0, 0) = " + INDEX);
    }

    // "The least multiple, above 0, of a row of EXPONENTS that is in the GROUP"
    private static void testOfTheEnds() {
        run("the ends are taken at each place", "make 5 0 0 0", "make 0 5 0 0", "make 0 0 5 0", "make 0 0 0 5",
                "test(5, 5, 5, 5) = 1", "times: 1 1 1 1", "test(-5, -5, -5, -5) = 1", "times: -1 -1 -1 -1",
                "test(5, -5, 5, -5) = 1", "times: 1 -1 1 -1", "test(4, 5, 5, 5) = 5", "times: 4 5 5 5");
        run("the row of 1", "make 5 0 0 0", "test(0, 0, 0, 0) = 1", "times: 0");
        run("above 0 for a row turned round", "make 5 1 0 0", "test(-5, -1, 0, 0) = 1", "times: -1");
        run("the least, not the product", "make 2 0 0 0", "make 0 4 0 0", "test(1, 1, 0, 0) = 4", "times: 2 1",
                "test(1, 2, 0, 0) = 2", "times: 1 1");
        run("a later test is the one known", "make 2 0 0 0", "test(1, 0, 0, 0) = 2", "times: 1", "test(5, 0, 0, 0) = 2",
                "times: 5", "test(4, 0, 0, 0) = 1", "times: 2");
    }

    // "IllegalArgumentException: one isn't -5 .. 5."
    private static void testRefused() {
        for (int v : BEYOND_FIVE) {
            run("test of " + v, "make 3 0 0 0", "test(" + v + ", 0, 0, 0) = " + ARGUMENT, "times(0) = " + STATE,
                    "test(1, 0, 0, 0) = 3", "test(" + v + ", 0, 0, 0) = " + ARGUMENT, "times: 1",
                    "test(0, " + v + ", 0, 0) = " + ARGUMENT, "times: 1", "test(0, 0, " + v + ", 0) = " + ARGUMENT,
                    "times: 1", "test(0, 0, 0, " + v + ") = " + ARGUMENT, "times: 1",
                    "test(" + v + ", " + v + ", " + v + ", " + v + ") = " + ARGUMENT, "times: 1");
        }
        run("refused in an empty object", "test(0, 0, 0, 0) = 1", "test(6, 0, 0, 0) = " + ARGUMENT,
                "times(0) = " + INDEX,
                "test(0, 0, 0, 5) = 0", "test(0, 0, 0, -6) = " + ARGUMENT, "times(0) = " + STATE);
    }

    // "0 if none is (none is KNOWN then)"
    private static void testOfNone() {
        run("none is known behind 0", "make 2 0 0 0", "test(2, 0, 0, 0) = 1", "test(2, 1, 0, 0) = 0",
                "times(0) = " + STATE,
                "test(1, 0, 0, 0) = 2", "times: 1");
        run("beside the group at each letter", "make 1 1 1 1", "test(1, 1, 1, 0) = 0", "test(0, 1, 1, 1) = 0",
                "test(1, 0, 1, 1) = 0", "test(1, 1, 1, -1) = 0", "test(1, 1, 1, 1) = 1", "times: 1");
        run("all rows have one in a full rank", "make 5 0 0 0", "make 4 5 0 0", "make 4 4 5 0", "make 4 4 4 5",
                "test(0, 0, 0, 1) = 625", "times: 0 0 0 1");
    }

    // "IllegalStateException: none is KNOWN."
    private static void timesOfNone() {
        String[] known = {"make 2 0 0 0", "make 0 2 0 0", "test(1, 1, 0, 0) = 2"};
        run("known until a change", with(known, "times: 1 1", "put(0, 0, 2) = 0", "times: 1 1", "put(0, 0, 3) = 1",
                "times(0) = " + STATE, "times(1) = " + STATE, "times(2) = " + STATE));
        run("not behind clear", with(known, "clear() = 0", "times(0) = " + STATE, "element() = 0",
                "times(0) = " + STATE));
        run("not behind element", with(known, "element() = 2", "times(0) = " + STATE));
        run("not behind multiply", with(known, "multiply(0, 1, 1) = 1", "times(0) = " + STATE));
        run("not behind a test of none", with(known, "test(0, 0, 0, 1) = 0", "times(0) = " + STATE));
        run("questions leave it known", with(known, "count() = 2", "at(0, 0) = 2", "rank() = 2", "relations() = 0",
                "group(1, 1) = 2", "hull(1, 1) = 1", "factor(1) = 2", "relation(0, 0) = " + INDEX, "times: 1 1"));
    }

    // times: "no such row"
    private static void timesOfRows() {
        run("the last row of each rank", "test(0, 0, 0, 0) = 1", "times:", "make 1 0 0 0", "test(5, 0, 0, 0) = 1",
                "times: 5", "make 0 1 0 0", "test(5, -5, 0, 0) = 1", "times: 5 -5", "make 0 0 1 0",
                "test(5, -5, 4, 0) = 1", "times: 5 -5 4", "make 0 0 0 1", "test(5, -5, 4, -4) = 1", "times: 5 -5 4 -4");
        run("rows of the base, not elements", "make 1 0 0 0", "make 2 0 0 0", "make 3 0 0 0", "test(3, 0, 0, 0) = 1",
                "times: 3", "times(2) = " + INDEX);
    }

    // "How many ELEMENTS there are."
    private static void countFromNoneToAll() {
        run("from 0 to 4 and to 0", "count() = 0", "element() = 0", "count() = 1", "element() = 1", "count() = 2",
                "element() = 2", "count() = 3", "element() = 3", "count() = 4", "element() = " + STATE, "count() = 4",
                "clear() = 0", "count() = 0", "clear() = 0", "count() = 0");
        run("the same one counts", "make 1 1 1 1", "make 1 1 1 1", "count() = 2");
    }

    // "No ELEMENTS; no POWER is KNOWN."
    private static void clearOfAll() {
        run("clear of a full object", "make 1 2 3 4", "make 5 -5 5 -5", "make 2 2 2 2", "make 0 1 0 3",
                "test(1, 2, 3, 4) = 1",
                "clear() = 0", "count() = 0", "times(0) = " + STATE, "group:", "hull:", "relations:", "factors:",
                "at(0, 0) = " + INDEX, "put(0, 0, 1) = " + INDEX, "multiply(0, 1, 1) = " + INDEX,
                "test(1, 2, 3, 4) = 0", "test(0, 0, 0, 0) = 1", "times:");
        run("nothing old behind clear", "make 1 2 3 4", "make 5 -5 5 -5", "clear() = 0", "element() = 0",
                "element() = 1",
                "at 0: 0 0 0 0", "at 1: 0 0 0 0", "group:", "relations: 1 0 / 0 1");
        run("clear again and again", "clear() = 0", "clear() = 0", "make 0 0 0 5", "clear() = 0", "make 0 0 5 0",
                "group: 0 0 5 0", "hull: 0 0 1 0", "factors: 5", "relations:");
    }

    /** Answers may be kept between changes: so each question comes once as the first behind a change. */
    private static void firstQuestionBehindAChange() {
        String[] make = {"make 2 0 0 0", "make 4 0 0 0", "rank() = 1"};
        run("rank first", with(make, "put(1, 1, 1) = 1", "rank() = 2"));
        run("relations first", with(make, "put(1, 1, 1) = 1", "relations() = 0"));
        run("relation first", with(make, "put(1, 0, 5) = 1", "relation(0, 0) = 5"));
        run("group first", with(make, "put(1, 0, 5) = 1", "group(0, 0) = 1"));
        run("hull first", with(make, "put(0, 3, 1) = 1; put(1, 3, 2) = 1", "put(0, 0, 0) = 1; put(1, 0, 0) = 1",
                "hull(0, 3) = 1"));
        run("hull first in a new object", "make 0 4 0 2", "hull(0, 1) = 2");
        run("factor first", with(make, "put(1, 0, 5) = 1", "factor(0) = 1"));
        run("test first", with(make, "put(1, 0, 5) = 1", "test(1, 0, 0, 0) = 1", "times(0) = 1"));
        run("test first behind multiply", with(make, "multiply(1, 0, -2) = 1; multiply(0, 1, 1) = 1",
                "test(1, 0, 0, 0) = 2", "times(0) = 1"));
        run("relation first behind element", with(make, "element() = 2", "relation(1, 2) = 1"));
        run("group first behind clear", with(make, "clear() = 0", "group(0, 0) = " + INDEX));
    }

    private static void oldAnswersAreGone() {
        run("from full to full", "make 5 4 3 2", "make 1 2 3 4", "make 5 5 5 5", "make 2 1 0 -1",
                "relations: 1 4 -3 3 / 0 5 -3 5", "clear() = 0",
                "make 1 1 0 0", "make 0 1 1 0", "make 0 0 1 1", "make 1 0 0 1", "relations: 1 -1 1 -1",
                "group: 1 0 0 1 / 0 1 0 -1 / 0 0 1 1", "hull: 1 0 0 1 / 0 1 0 -1 / 0 0 1 1", "factors: 1 1 1");
        run("from full to one", "make 5 4 3 2", "make 1 2 3 4", "make 0 5 0 5", "make 2 1 0 -1", "rank() = 3",
                "factor(2) = 30", "clear() = 0", "make 0 0 0 -5", "group: 0 0 0 5", "hull: 0 0 0 1", "relations:",
                "factors: 5", "test(0, 0, 0, 2) = 5", "times: 2");
    }

    /** The sets were found by search; the numbers were worked out apart from the class. */
    private static void greatestAnswers() {
        run("the greatest group", "make 4 5 5 -5", "make -5 5 -5 -5", "make 5 5 -4 5", "make 5 -3 -5 -5",
                "group: 1 0 0 8060 / 0 1 0 4925 / 0 0 1 1810 / 0 0 0 8240", "factors: 1 1 1 8240", "relations:",
                "test(1, -4, 5, 5) = 1648", "times: 1648 -6592 8240 519");
        run("the greatest hull", "make -5 -5 5 -3", "make 5 -3 5 -4", "make -4 5 5 1",
                "hull: 1 0 380 -139 / 0 1 305 -111 / 0 0 490 -179", "factors: 1 1 1", "test(0, 2, -5, -5) = 0");
        run("the greatest relation", "make 5 5 -5 -4", "make 4 -2 2 -1", "make -5 5 -5 5", "make 5 -4 4 5",
                "relations: 85 -495 -171 140", "group: 1 0 0 0 / 0 1 -1 0 / 0 0 0 1");
        run("the greatest power and factor", "make -5 5 -5 -5", "make -5 -5 -5 4", "make -5 4 5 5", "make -4 -5 5 -5",
                "factors: 1 1 1 8645", "test(5, 4, -4, -5) = 8645", "times: 43225 34580 -6916 -41551",
                "group: 1 0 0 1538 / 0 1 0 172 / 0 0 5 91 / 0 0 0 1729");
        run("the greatest times", "make 4 -5 5 -5", "make -5 -5 4 5", "make -5 5 4 -5", "make -5 -4 -4 -5",
                "test(-5, -5, -5, 3) = 7690", "times: -38450 -38450 -38450 106803");
        run("the greatest determinant", "make 5 5 5 5", "make 5 -5 5 -5", "make 5 5 -5 -5", "make 5 -5 -5 5",
                "factors: 5 10 10 20", "hull: 1 0 0 0 / 0 1 0 0 / 0 0 1 0 / 0 0 0 1", "test(1, 0, 0, 0) = 20");
    }

    // "An object is used for at most 512 calls after it has been made"
    private static void lastCall() {
        Run run = new Run("the 512th call is answered");
        run.line("make 2 0 0 0");
        run.line("make 0 3 0 0");
        while (run.calls < MOST_CALLS - 5) {
            run.line(run.calls % 2 == 0 ? "put(0, 0, 3) = 1" : "put(0, 0, 2) = 1");
        }
        run.line("put(0, 0, -5) = 1");
        run.line("group(0, 0) = 5");
        run.line("test(1, 1, 0, 0) = 15");
        run.line("times(0) = 3");
        run.line("times(1) = 5");
        if (run.calls != MOST_CALLS) {
            run.tell("calls", run.calls, MOST_CALLS);
        }
        runs++;
        wrong += run.wrong;
    }

    /** One object and the lines that are told of it. */
    private static final class Run {
        private final String sentence;
        private final StructureRows x = new StructureRows();
        private int calls = 0;
        private int wrong = 0;

        Run(String sentence) {
            this.sentence = sentence;
        }

        void tell(String call, Object got, Object want) {
            wrong++;
            System.out.println(sentence + ": " + call + " answered " + got + ", due is " + want);
        }

        /** "make a b c d": one element more; "at n: .."; "group: row / row", "hull: ..", "relations: ..",
        "factors: ..". */
        void line(String line) {
            int colon = line.indexOf(':');
            if (line.startsWith("make ")) {
                make(line.substring(5).split(" "));
            } else if (line.startsWith("at ")) {
                numbers("at(" + line.charAt(3) + ", ", line.substring(colon + 1), 4);
            } else if (line.startsWith("group:") || line.startsWith("hull:")) {
                base(line.substring(0, colon), "rank()", line.substring(colon + 1), 4);
            } else if (line.startsWith("relations:")) {
                base("relation", "relations()", line.substring(colon + 1), x.count());
                calls++;
            } else if (line.startsWith("factors:") || line.startsWith("times:")) {
                String name = line.startsWith("times:") ? "times(" : "factor(";
                int size = numbers(name, line.substring(colon + 1), -1);
                due("rank()", "" + size);
                due(name + size + ")", INDEX);
            } else {
                for (String part : line.split(";")) {
                    String[] sides = part.trim().split(" = ");
                    due(sides[0], sides[1]);
                }
            }
        }

        private void make(String[] exponents) {
            int number = x.element();
            calls++;
            for (int letter = 0; letter < 4; letter++) {
                x.put(number, letter, Integer.parseInt(exponents[letter]));
                calls++;
            }
        }

        private void base(String name, String size, String text, int width) {
            String[] rows = text.isBlank() ? new String[0] : text.split("/");
            due(size, "" + rows.length);
            for (int row = 0; row < rows.length; row++) {
                numbers(name + "(" + row + ", ", rows[row], width);
            }
            due(name + "(" + rows.length + ", 0)", INDEX);
            due(name + "(-1, 0)", INDEX);
        }

        private int numbers(String callAhead, String text, int width) {
            String[] numbers = text.isBlank() ? new String[0] : text.trim().split(" ");
            if (width >= 0 && numbers.length != width) {
                tell("the numbers of " + callAhead, width, numbers.length);
            }
            for (int i = 0; i < numbers.length; i++) {
                due(callAhead + i + ")", numbers[i]);
            }
            return numbers.length;
        }

        private void due(String call, String want) {
            calls++;
            if (calls > MOST_CALLS) {
                throw new AssertionError("the test itself calls too often: " + sentence);
            }
            String got = answer(call);
            if (!got.equals(want)) {
                tell(call, got, want);
            }
        }

        private String answer(String call) {
            int open = call.indexOf('(');
            String inside = call.substring(open + 1, call.length() - 1);
            String[] words = inside.isEmpty() ? new String[0] : inside.split(", ");
            int[] a = new int[words.length];
            for (int i = 0; i < a.length; i++) {
                a[i] = Integer.parseInt(words[i]);
            }
            try {
                return "" + made(call.substring(0, open), a);
            } catch (RuntimeException e) {
                return "throws." + e.getClass().getSimpleName();
            }
        }

        private long made(String name, int[] a) {
            switch (name) {
                case "element": return x.element();
                case "put": return x.put(a[0], a[1], a[2]) ? 1 : 0;
                case "at": return x.at(a[0], a[1]);
                case "multiply": return x.multiply(a[0], a[1], a[2]) ? 1 : 0;
                case "rank": return x.rank();
                case "relations": return x.relations();
                case "relation": return x.relation(a[0], a[1]);
                case "group": return x.group(a[0], a[1]);
                case "hull": return x.hull(a[0], a[1]);
                case "factor": return x.factor(a[0]);
                case "test": return x.test(a[0], a[1], a[2], a[3]);
                case "times": return x.times(a[0]);
                case "count": return x.count();
                case "clear":
                    x.clear();
                    return 0;
                default: throw new AssertionError("no such call: " + name);
            }
        }
    }
}

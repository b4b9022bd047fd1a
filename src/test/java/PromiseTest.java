/** Each promise of the document by hand-made runs: ordinary inputs, edges, wrong inputs. */
public final class PromiseTest {
    private static final String INDEX = "IndexOutOfBoundsException";
    private static final String ARGUMENT = "IllegalArgumentException";
    private static final String STATE = "IllegalStateException";
    private static final int[] NO_INDICES = {-1, 4, 5, 100, Integer.MIN_VALUE, Integer.MAX_VALUE};
    private static final int[] NO_EXPONENTS = {-6, 6, 11, Integer.MIN_VALUE, Integer.MAX_VALUE};

    private static int wrong = 0;

    private interface Call {
        long answer();
    }

    public static void main(String[] args) {
        promise1NewObject();
        promise2Element();
        promise3Put();
        promise4At();
        promise5Multiply();
        promise5MultiplyWrong();
        promise6Rank();
        promise7And8Relations();
        promise8RelationWrong();
        promise9Group();
        promise10Hull();
        promise9And10Wrong();
        promise11Factor();
        promise12Test();
        promise12TestWrong();
        promise13Times();
        promise13TimesForgotten();
        promise13TimesKept();
        promise14Count();
        promise15Clear();
        objectsAreApart();
        System.out.println(wrong == 0 ? "all answers are as due" : wrong + " answers are not as due");
        if (wrong != 0) {
            System.exit(1);
        }
    }

    private static void due(String what, long want, Call call) {
        String got;
        try {
            got = Long.toString(call.answer());
        } catch (RuntimeException e) {
            got = "throws." + e.getClass().getSimpleName();
        }
        if (!got.equals(Long.toString(want))) {
            tell(what, got, Long.toString(want));
        }
    }

    private static void dueThrow(String what, String want, Call call) {
        String got;
        try {
            got = Long.toString(call.answer());
        } catch (RuntimeException e) {
            got = e.getClass().getSimpleName();
        }
        if (!got.equals(want)) {
            tell(what, got, want);
        }
    }

    private static void tell(String what, String got, String want) {
        wrong++;
        System.out.println(what + " answered " + got + ", due is " + want);
    }

    private static long bit(boolean b) {
        return b ? 1 : 0;
    }

    private static StructureRows rows(int[]... elements) {
        StructureRows x = new StructureRows();
        for (int[] element : elements) {
            int number = x.element();
            for (int letter = 0; letter < 4; letter++) {
                x.put(number, letter, element[letter]);
            }
        }
        return x;
    }

    private static int[] row(int a, int b, int c, int d) {
        return new int[] {a, b, c, d};
    }

    private static void dueElement(String what, StructureRows x, int element, int... want) {
        for (int letter = 0; letter < 4; letter++) {
            int place = letter;
            due(what + ": at(" + element + ", " + letter + ")", want[letter], () -> x.at(element, place));
        }
    }

    private static void dueGroup(String what, StructureRows x, long[]... want) {
        due(what + ": rank()", want.length, x::rank);
        for (int i = 0; i < want.length; i++) {
            for (int j = 0; j < 4; j++) {
                int row = i;
                int letter = j;
                due(what + ": group(" + i + ", " + j + ")", want[i][j], () -> x.group(row, letter));
            }
        }
        dueThrow(what + ": group(rank, 0)", INDEX, () -> x.group(want.length, 0));
    }

    private static void dueHull(String what, StructureRows x, long[]... want) {
        for (int i = 0; i < want.length; i++) {
            for (int j = 0; j < 4; j++) {
                int row = i;
                int letter = j;
                due(what + ": hull(" + i + ", " + j + ")", want[i][j], () -> x.hull(row, letter));
            }
        }
        dueThrow(what + ": hull(rank, 0)", INDEX, () -> x.hull(want.length, 0));
    }

    private static void dueRelations(String what, StructureRows x, long[]... want) {
        due(what + ": relations()", want.length, x::relations);
        for (int i = 0; i < want.length; i++) {
            for (int j = 0; j < want[i].length; j++) {
                int row = i;
                int element = j;
                due(what + ": relation(" + i + ", " + j + ")", want[i][j], () -> x.relation(row, element));
            }
        }
        dueThrow(what + ": relation(relations, 0)", INDEX, () -> x.relation(want.length, 0));
    }

    private static void dueFactors(String what, StructureRows x, long... want) {
        for (int i = 0; i < want.length; i++) {
            int k = i;
            due(what + ": factor(" + i + ")", want[i], () -> x.factor(k));
        }
        dueThrow(what + ": factor(rank)", INDEX, () -> x.factor(want.length));
    }

    private static void dueTimes(String what, StructureRows x, long... want) {
        for (int i = 0; i < want.length; i++) {
            int row = i;
            due(what + ": times(" + i + ")", want[i], () -> x.times(row));
        }
        dueThrow(what + ": times(rank)", INDEX, () -> x.times(want.length));
    }

    private static void dueNothingKnown(String what, StructureRows x) {
        dueThrow(what + ": times(0)", STATE, () -> x.times(0));
        dueThrow(what + ": times(-1)", STATE, () -> x.times(-1));
        dueThrow(what + ": times(4)", STATE, () -> x.times(4));
    }

    private static long[] longs(long... numbers) {
        return numbers;
    }

    private static void promise1NewObject() {
        StructureRows x = new StructureRows();
        dueNothingKnown("new", x);
        due("new: count()", 0, x::count);
        dueGroup("new", x);
        dueHull("new", x);
        dueRelations("new", x);
        dueFactors("new", x);
        dueThrow("new: at(0, 0)", INDEX, () -> x.at(0, 0));
        dueNothingKnown("new, after questions", x);
    }

    private static void promise2Element() {
        StructureRows x = new StructureRows();
        for (int i = 0; i < 4; i++) {
            due("element() no. " + i, i, x::element);
            due("count() behind element", i + 1, x::count);
            dueElement("a new element", x, i, 0, 0, 0, 0);
            x.put(i, i, 3);
        }
        due("test ahead of the fifth element()", 3, () -> x.test(1, 0, 0, 0));
        dueThrow("element() no. 4", STATE, x::element);
        dueThrow("element() no. 4 again", STATE, x::element);
        due("count() behind the fifth element()", 4, x::count);
        dueTimes("behind the fifth element()", x, 1, 0, 0, 0);
        dueElement("behind the fifth element()", x, 3, 0, 0, 0, 3);

        StructureRows one = rows(row(2, 0, 0, 0));
        due("test ahead of element()", 2, () -> one.test(1, 0, 0, 0));
        one.element();
        dueNothingKnown("behind element()", one);
        dueGroup("behind element()", one, longs(2, 0, 0, 0));
        dueRelations("behind element()", one, longs(0, 1));
    }

    private static void promise3Put() {
        StructureRows x = rows(row(0, 0, 0, 0), row(1, 0, 0, 0));
        due("put another one", 1, () -> bit(x.put(0, 2, 5)));
        due("put the same", 0, () -> bit(x.put(0, 2, 5)));
        due("put the least", 1, () -> bit(x.put(0, 3, -5)));
        due("put 0 on 0", 0, () -> bit(x.put(0, 0, 0)));
        dueElement("behind put", x, 0, 0, 0, 5, -5);
        dueElement("behind put, the other", x, 1, 1, 0, 0, 0);
        due("test ahead of put", 1, () -> x.test(1, 0, 0, 0));
        due("put the same while known", 0, () -> bit(x.put(1, 0, 1)));
        dueTimes("behind put of the same", x, 1, 0);
        for (int no : NO_EXPONENTS) {
            dueThrow("put(0, 0, " + no + ")", ARGUMENT, () -> bit(x.put(0, 0, no)));
            dueThrow("put(2, 0, " + no + ")", INDEX, () -> bit(x.put(2, 0, no)));
            dueThrow("put(0, 4, " + no + ")", INDEX, () -> bit(x.put(0, 4, no)));
        }
        for (int no : NO_INDICES) {
            dueThrow("put(" + no + ", 0, 1)", INDEX, () -> bit(x.put(no, 0, 1)));
            dueThrow("put(0, " + no + ", 1)", INDEX, () -> bit(x.put(0, no, 1)));
        }
        dueThrow("put(2, 0, 1)", INDEX, () -> bit(x.put(2, 0, 1)));
        dueElement("behind wrong puts", x, 0, 0, 0, 5, -5);
        dueElement("behind wrong puts, the other", x, 1, 1, 0, 0, 0);
        dueTimes("behind wrong puts", x, 1, 0);
        due("put another one while known", 1, () -> bit(x.put(0, 0, -5)));
        dueNothingKnown("behind put of another one", x);
        dueGroup("behind put of another one", x, longs(1, 0, 0, 0), longs(0, 0, 5, -5));
    }

    private static void promise4At() {
        StructureRows x = rows(row(1, -2, 3, -4), row(5, -5, 0, 2));
        dueElement("at", x, 0, 1, -2, 3, -4);
        dueElement("at", x, 1, 5, -5, 0, 2);
        x.test(1, -2, 3, -4);
        dueThrow("at(2, 0)", INDEX, () -> x.at(2, 0));
        for (int no : NO_INDICES) {
            dueThrow("at(" + no + ", 0)", INDEX, () -> x.at(no, 0));
            dueThrow("at(0, " + no + ")", INDEX, () -> x.at(0, no));
        }
        due("at keeps what is known", 1, () -> x.times(0));
    }

    private static void promise5Multiply() {
        StructureRows x = rows(row(1, 2, 0, -1), row(1, -1, 0, 2), row(5, 0, 0, 0));
        due("multiply by a power", 1, () -> bit(x.multiply(0, 1, -2)));
        dueElement("behind multiply", x, 0, -1, 4, 0, -5);
        dueElement("behind multiply, the other", x, 1, 1, -1, 0, 2);
        due("multiply to 5", 1, () -> bit(x.multiply(0, 2, 1)));
        dueElement("behind multiply to 5", x, 0, 4, 4, 0, -5);
        due("multiply by power 0", 1, () -> bit(x.multiply(0, 1, 0)));
        dueElement("behind power 0", x, 0, 4, 4, 0, -5);
        due("test ahead of multiply", 1, () -> x.test(4, 4, 0, -5));
        due("multiply beyond 5 at the first letter", 0, () -> bit(x.multiply(0, 2, 1)));
        due("multiply beyond -5 at the last letter", 0, () -> bit(x.multiply(0, 1, -1)));
        due("multiply beyond 5 by power 5", 0, () -> bit(x.multiply(2, 0, 5)));
        dueElement("behind failing multiply", x, 0, 4, 4, 0, -5);
        due("a failing multiply keeps what is known", 4, () -> x.times(0));
        due("multiply by power 0 while known", 1, () -> bit(x.multiply(0, 1, 0)));
        dueNothingKnown("behind multiply by power 0", x);

        StructureRows ones = rows(row(0, 0, 0, 0), row(3, 0, 0, 0));
        ones.test(3, 0, 0, 0);
        due("multiply by 1", 1, () -> bit(ones.multiply(1, 0, 5)));
        dueNothingKnown("behind multiply by 1", ones);
        due("multiply 1 by another", 1, () -> bit(ones.multiply(0, 1, -1)));
        dueElement("behind multiply of 1", ones, 0, -3, 0, 0, 0);
        dueRelations("behind multiply of 1", ones, longs(1, 1));
    }

    private static void promise5MultiplyWrong() {
        StructureRows x = rows(row(1, 0, 0, 0), row(0, 1, 0, 0));
        x.test(1, 1, 0, 0);
        dueThrow("multiply(0, 0, 1)", ARGUMENT, () -> bit(x.multiply(0, 0, 1)));
        dueThrow("multiply(1, 1, 0)", ARGUMENT, () -> bit(x.multiply(1, 1, 0)));
        dueThrow("multiply(2, 2, 1)", INDEX, () -> bit(x.multiply(2, 2, 1)));
        dueThrow("multiply(-1, -1, 6)", INDEX, () -> bit(x.multiply(-1, -1, 6)));
        for (int no : NO_EXPONENTS) {
            dueThrow("multiply(0, 1, " + no + ")", ARGUMENT, () -> bit(x.multiply(0, 1, no)));
            dueThrow("multiply(0, 2, " + no + ")", INDEX, () -> bit(x.multiply(0, 2, no)));
            dueThrow("multiply(2, 0, " + no + ")", INDEX, () -> bit(x.multiply(2, 0, no)));
        }
        for (int no : NO_INDICES) {
            dueThrow("multiply(" + no + ", 0, 1)", INDEX, () -> bit(x.multiply(no, 0, 1)));
            dueThrow("multiply(0, " + no + ", 1)", INDEX, () -> bit(x.multiply(0, no, 1)));
        }
        dueElement("behind wrong multiply", x, 0, 1, 0, 0, 0);
        dueElement("behind wrong multiply, the other", x, 1, 0, 1, 0, 0);
        dueTimes("behind wrong multiply", x, 1, 1);
        due("multiply by power 5", 1, () -> bit(x.multiply(0, 1, 5)));
        due("multiply by power -5", 1, () -> bit(x.multiply(0, 1, -5)));
        dueElement("behind powers 5 and -5", x, 0, 1, 0, 0, 0);
    }

    private static void promise6Rank() {
        due("rank of 1", 0, rows(row(0, 0, 0, 0))::rank);
        due("rank of one", 1, rows(row(0, 0, 0, -3))::rank);
        due("rank of powers", 1, rows(row(1, -2, 0, 1), row(-2, 4, 0, -2), row(0, 0, 0, 0))::rank);
        due("rank of three in a plane", 2, rows(row(1, 2, 3, 4), row(4, 3, 2, 1), row(5, 5, 5, 5))::rank);
        due("rank of letters", 4, rows(row(0, 0, 0, 1), row(0, 0, 1, 0), row(0, 1, 0, 0), row(1, 0, 0, 0))::rank);
        due("rank of four in a space", 3,
                rows(row(1, 1, 0, 0), row(0, 1, 1, 0), row(0, 0, 1, 1), row(1, 0, 0, 1))::rank);
    }

    private static void promise7And8Relations() {
        dueRelations("independent", rows(row(2, 0, 0, 0), row(0, 3, 0, 0)));
        dueRelations("only 1", rows(row(0, 0, 0, 0), row(0, 0, 0, 0)), longs(1, 0), longs(0, 1));
        dueRelations("powers of one", rows(row(2, 0, 0, 0), row(3, 0, 0, 0)), longs(3, -2));
        dueRelations("same sign", rows(row(2, 0, 0, 0), row(-4, 0, 0, 0)), longs(2, 1));
        dueRelations("reduced ahead", rows(row(2, 0, 0, 0), row(3, 0, 0, 0), row(5, 0, 0, 0)),
                longs(1, 1, -1), longs(0, 5, -3));
        dueRelations("a last beginning", rows(row(1, 1, 0, 0), row(0, 0, 0, 0)), longs(0, 1));
        dueRelations("in a space", rows(row(1, 1, 0, 0), row(0, 1, 1, 0), row(0, 0, 1, 1), row(1, 0, 0, 1)),
                longs(1, -1, 1, -1));
        dueRelations("four on a line", rows(row(0, 2, 0, 0), row(0, 3, 0, 0), row(0, 5, 0, 0), row(0, -4, 0, 0)),
                longs(1, 0, 2, 3), longs(0, 1, 1, 2), longs(0, 0, 4, 5));
    }

    private static void promise8RelationWrong() {
        StructureRows x = rows(row(2, 0, 0, 0), row(4, 0, 0, 0));
        x.test(2, 0, 0, 0);
        due("relation(0, 0)", 2, () -> x.relation(0, 0));
        due("relation(0, 1)", -1, () -> x.relation(0, 1));
        dueThrow("relation(0, 2)", INDEX, () -> x.relation(0, 2));
        dueThrow("relation(1, 0)", INDEX, () -> x.relation(1, 0));
        for (int no : NO_INDICES) {
            dueThrow("relation(" + no + ", 0)", INDEX, () -> x.relation(no, 0));
            dueThrow("relation(0, " + no + ")", INDEX, () -> x.relation(0, no));
        }
        dueTimes("behind relation", x, 1);
    }

    private static void promise9Group() {
        dueGroup("sign turned", rows(row(-2, 4, 0, 1)), longs(2, -4, 0, -1));
        dueGroup("1 beside another", rows(row(0, 0, 0, 0), row(0, 0, 3, 0)), longs(0, 0, 3, 0));
        dueGroup("common divisor", rows(row(4, 0, 0, 0), row(5, 0, 0, 0)), longs(1, 0, 0, 0));
        dueGroup("reduced ahead", rows(row(1, -1, 0, 0), row(0, 3, 0, 0)), longs(1, 2, 0, 0), longs(0, 3, 0, 0));
        dueGroup("reduced by 1", rows(row(1, 5, 0, 0), row(0, 1, 2, 0)), longs(1, 0, -10, 0), longs(0, 1, 2, 0));
        dueGroup("a letter left out", rows(row(0, 2, 1, 0), row(0, 2, 3, 1)), longs(0, 2, 1, 0), longs(0, 0, 2, 1));
        dueGroup("four rows", rows(row(5, 0, 0, 0), row(4, 5, 0, 0), row(4, 4, 5, 0), row(4, 4, 4, 5)),
                longs(1, 0, 0, 500), longs(0, 1, 0, 600), longs(0, 0, 1, 620), longs(0, 0, 0, 625));
    }

    private static void promise10Hull() {
        dueHull("root of one", rows(row(4, 0, -2, 0)), longs(2, 0, -1, 0));
        dueHull("no root", rows(row(4, 0, -3, 0)), longs(4, 0, -3, 0));
        dueHull("sign turned", rows(row(-5, 5, 0, 0)), longs(1, -1, 0, 0));
        dueHull("whole space", rows(row(5, 0, 0, 0), row(4, 5, 0, 0), row(4, 4, 5, 0), row(4, 4, 4, 5)),
                longs(1, 0, 0, 0), longs(0, 1, 0, 0), longs(0, 0, 1, 0), longs(0, 0, 0, 1));
        dueHull("root of a product", rows(row(1, 1, 0, 0), row(1, -1, 0, 0)), longs(1, 0, 0, 0), longs(0, 1, 0, 0));
        dueHull("reduced ahead", rows(row(2, 4, 0, 0), row(3, 0, 1, 0)), longs(1, 2, 0, 0), longs(0, 6, -1, 0));
        dueHull("only 1", rows(row(0, 0, 0, 0)));
    }

    private static void promise9And10Wrong() {
        StructureRows x = rows(row(2, 0, 0, 0), row(0, 2, 0, 0));
        x.test(1, 1, 0, 0);
        for (int no : NO_INDICES) {
            dueThrow("group(" + no + ", 0)", INDEX, () -> x.group(no, 0));
            dueThrow("group(0, " + no + ")", INDEX, () -> x.group(0, no));
            dueThrow("hull(" + no + ", 0)", INDEX, () -> x.hull(no, 0));
            dueThrow("hull(0, " + no + ")", INDEX, () -> x.hull(0, no));
            dueThrow("factor(" + no + ")", INDEX, () -> x.factor(no));
        }
        dueThrow("group(2, 0)", INDEX, () -> x.group(2, 0));
        dueThrow("hull(2, 0)", INDEX, () -> x.hull(2, 0));
        dueThrow("factor(2)", INDEX, () -> x.factor(2));
        dueTimes("behind wrong group, hull, factor", x, 1, 1);
    }

    private static void promise11Factor() {
        dueFactors("one", rows(row(4, 0, -2, 0)), 2);
        dueFactors("not in the order of elements", rows(row(4, 0, 0, 0), row(0, 2, 0, 0)), 2, 4);
        dueFactors("2 and 3", rows(row(2, 0, 0, 0), row(0, 3, 0, 0)), 1, 6);
        dueFactors("5 each", rows(row(5, 0, 0, 0), row(0, 5, 0, 0), row(0, 0, 5, 0), row(0, 0, 0, 5)), 5, 5, 5, 5);
        dueFactors("with 1", rows(row(0, 0, 0, 0), row(0, 0, 0, 3)), 3);
        dueFactors("dependent", rows(row(2, 2, 0, 0), row(2, -2, 0, 0), row(4, 0, 0, 0)), 2, 4);
        dueFactors("greatest determinant",
                rows(row(5, 5, 5, 5), row(5, -5, 5, -5), row(5, 5, -5, -5), row(5, -5, -5, 5)), 5, 10, 10, 20);
        dueFactors("only 1", rows(row(0, 0, 0, 0)));
    }

    private static void promise12Test() {
        StructureRows x = rows(row(4, 0, -2, 0), row(0, 3, 0, 0));
        due("test of an element", 1, () -> x.test(4, 0, -2, 0));
        dueTimes("of an element", x, 1, 0);
        due("test of a root", 2, () -> x.test(-2, 0, 1, 0));
        dueTimes("of a root", x, -1, 0);
        due("test of two roots", 6, () -> x.test(2, 1, -1, 0));
        dueTimes("of two roots", x, 3, 2);
        due("test of 1", 1, () -> x.test(0, 0, 0, 0));
        dueTimes("of 1", x, 0, 0);
        due("test beside the hull", 0, () -> x.test(0, 0, 0, 1));
        dueNothingKnown("beside the hull", x);
        due("test beside the hull by the middle", 0, () -> x.test(2, 0, 1, 0));
        dueNothingKnown("beside the hull by the middle", x);
        due("test of both", 1, () -> x.test(4, -3, -2, 0));
        dueTimes("of both", x, 1, -1);

        StructureRows far = rows(row(5, 0, 0, 0), row(4, 5, 0, 0), row(4, 4, 5, 0), row(4, 4, 4, 5));
        due("test of far root", 625, () -> far.test(0, 0, 0, 1));
        dueTimes("of far root", far, 0, 0, 0, 1);
        due("test of near root", 5, () -> far.test(1, 0, 0, 0));
        dueTimes("of near root", far, 5, 0, 0, -4);
        due("test of far root 5", 125, () -> far.test(5, 5, 5, 5));
        StructureRows none = new StructureRows();
        due("test of 1 without elements", 1, () -> none.test(0, 0, 0, 0));
        dueTimes("of 1 without elements", none);
        due("test without elements", 0, () -> none.test(0, 0, -5, 0));
        dueNothingKnown("without elements", none);
    }

    private static void promise12TestWrong() {
        StructureRows x = rows(row(2, 0, 0, 0));
        for (int no : NO_EXPONENTS) {
            dueThrow("test(" + no + ", 0, 0, 0)", ARGUMENT, () -> x.test(no, 0, 0, 0));
            dueThrow("test(0, " + no + ", 0, 0)", ARGUMENT, () -> x.test(0, no, 0, 0));
        }
        dueNothingKnown("behind wrong test with none known", x);
        due("test ahead of wrong ones", 2, () -> x.test(1, 0, 0, 0));
        for (int no : NO_EXPONENTS) {
            dueThrow("test(0, 0, " + no + ", 0)", ARGUMENT, () -> x.test(0, 0, no, 0));
            dueThrow("test(0, 0, 0, " + no + ")", ARGUMENT, () -> x.test(0, 0, 0, no));
        }
        dueTimes("behind wrong test", x, 1);
        due("test of the greatest", 2, () -> x.test(5, 0, 0, 0));
        due("test of the least", 2, () -> x.test(-5, 0, 0, 0));
        dueTimes("of the least", x, -5);
        due("test of the greatest last", 0, () -> x.test(0, 5, -5, 5));
    }

    private static void promise13Times() {
        StructureRows x = rows(row(1, 5, 0, 0), row(0, 1, 2, 0));
        due("test in the group", 1, () -> x.test(1, 4, -2, 0));
        dueTimes("by the base, not by elements", x, 1, 4);
        for (int no : NO_INDICES) {
            dueThrow("times(" + no + ")", INDEX, () -> x.times(no));
        }
        dueTimes("again", x, 1, 4);
        due("test of another", 1, () -> x.test(1, 5, 0, 0));
        dueTimes("of another", x, 1, 5);
        due("test of a root", 0, () -> x.test(0, 0, 1, 0));
        dueNothingKnown("behind none", x);

        StructureRows carried = rows(row(2, 1, 0, 0), row(0, 3, 0, 0));
        due("test with a part carried", 6, () -> carried.test(1, 0, 0, 0));
        dueTimes("with a part carried", carried, 3, -1);
    }

    private static void promise13TimesForgotten() {
        StructureRows x = rows(row(2, 0, 0, 0), row(0, 3, 0, 0));
        x.test(1, 1, 0, 0);
        x.put(1, 3, 1);
        dueNothingKnown("behind put", x);
        x.test(2, 0, 0, 0);
        x.multiply(1, 0, 1);
        dueNothingKnown("behind multiply", x);
        x.test(2, 0, 0, 0);
        x.element();
        dueNothingKnown("behind element", x);
        x.test(2, 0, 0, 0);
        x.clear();
        dueNothingKnown("behind clear", x);
    }

    private static void promise13TimesKept() {
        StructureRows x = rows(row(2, 0, 0, 0), row(0, 3, 0, 0), row(2, 3, 0, 0));
        due("test ahead of questions", 6, () -> x.test(1, 1, 0, 0));
        x.rank();
        x.relations();
        x.relation(0, 0);
        x.group(1, 1);
        x.hull(0, 1);
        x.factor(1);
        x.at(1, 1);
        x.count();
        x.put(0, 0, 2);
        x.multiply(2, 0, 2);
        dueTimes("behind questions", x, 3, 2);
    }

    private static void promise14Count() {
        StructureRows x = new StructureRows();
        due("count of none", 0, x::count);
        x.element();
        x.element();
        due("count of two", 2, x::count);
        x.put(0, 0, 1);
        x.multiply(1, 0, 1);
        x.test(1, 0, 0, 0);
        due("count behind changes", 2, x::count);
        due("count keeps what is known", 1, () -> x.times(0));
    }

    private static void promise15Clear() {
        StructureRows x = rows(row(1, 2, 3, 4), row(5, -5, 5, -5), row(2, 2, 2, 2), row(0, 1, 0, 3));
        x.test(1, 2, 3, 4);
        x.clear();
        dueNothingKnown("behind clear", x);
        due("count behind clear", 0, x::count);
        dueGroup("behind clear", x);
        dueHull("behind clear", x);
        dueRelations("behind clear", x);
        dueFactors("behind clear", x);
        dueThrow("at behind clear", INDEX, () -> x.at(0, 0));
        dueThrow("put behind clear", INDEX, () -> bit(x.put(0, 0, 1)));
        dueThrow("multiply behind clear", INDEX, () -> bit(x.multiply(0, 1, 1)));
        due("test behind clear", 0, () -> x.test(1, 2, 3, 4));
        due("element behind clear", 0, x::element);
        dueElement("element behind clear", x, 0, 0, 0, 0, 0);
        dueRelations("element behind clear", x, longs(1));
        x.clear();
        x.clear();
        for (int i = 0; i < 4; i++) {
            due("element behind clear twice", i, x::element);
        }
        dueThrow("fifth element behind clear", STATE, x::element);
    }

    private static void objectsAreApart() {
        StructureRows one = rows(row(2, 0, 0, 0));
        one.test(1, 0, 0, 0);
        StructureRows other = rows(row(0, 3, 0, 0), row(0, 0, 1, 0));
        other.test(0, 1, 1, 0);
        dueTimes("one of two objects", one, 1);
        dueGroup("one of two objects", one, longs(2, 0, 0, 0));
        dueTimes("the other of two objects", other, 1, 3);
    }
}

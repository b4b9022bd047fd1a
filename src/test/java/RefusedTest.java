import java.util.ArrayList;
import java.util.List;

/**
 * Each call that must change nothing, in many states: refused calls with the exception that the document names,
 * questions, a put of the same exponent, a multiply that leaves -5 .. 5. An object that had the call answers all
 * that is asked afterwards as its twin does that had none.
 */
public final class RefusedTest {
    private static final String INDEX = "throws.IndexOutOfBoundsException";
    private static final String ARGUMENT = "throws.IllegalArgumentException";
    private static final String STATE = "throws.IllegalStateException";
    private static final int MOST_CALLS = 512;
    private static final int[] NO_EXPONENTS = {-6, 6, 251, 65536, 1 << 30, Integer.MAX_VALUE, Integer.MIN_VALUE};
    /** Times 4 or 8 some of these would wrap round to a right place. */
    private static final int[] FAR = {-1, 256, 1 << 28, 1 << 29, 1 << 30, Integer.MAX_VALUE, Integer.MIN_VALUE};

    private static int asked = 0;
    private static int wrong = 0;

    private interface Call {
        long answer(StructureRows x);
    }

    private record Told(String text, Call call, String due) {
    }

    /** A state: the rows of its elements, and what the document asks of them, written by hand. */
    private record State(String name, int[][] rows, int rank, int[] test, long power) {
        int count() {
            return rows.length;
        }

        int relations() {
            return rows.length - rank;
        }

        boolean isKnown() {
            return power > 0;
        }
    }

    private static final State[] STATES = {
        new State("new", new int[][] {}, 0, null, 0),
        new State("empty, 1 known", new int[][] {}, 0, new int[] {0, 0, 0, 0}, 1),
        new State("empty, none in the group", new int[][] {}, 0, new int[] {0, 5, 0, 0}, 0),
        new State("1 alone", new int[][] {{0, 0, 0, 0}}, 0, new int[] {0, 0, 0, 0}, 1),
        new State("one", new int[][] {{4, 0, -2, 0}}, 1, new int[] {2, 0, -1, 0}, 2),
        new State("two, none known", new int[][] {{5, -5, 5, -5}, {5, 5, 5, 5}}, 2, null, 0),
        new State("two on a line", new int[][] {{0, 0, 0, 3}, {0, 0, 0, 5}}, 1, new int[] {0, 0, 0, -5}, 1),
        new State("three", new int[][] {{2, 0, 0, 0}, {0, 3, 0, 0}, {0, 0, -5, 0}}, 3, new int[] {1, 1, 1, 0}, 30),
        new State("full", new int[][] {{5, 0, 0, 0}, {4, 5, 0, 0}, {4, 4, 5, 0}, {4, 4, 4, 5}}, 4,
                new int[] {5, 5, 5, 5}, 125),
        new State("full, rank 2", new int[][] {{1, 1, 0, 0}, {1, -1, 0, 0}, {5, 1, 0, 0}, {0, 0, 0, 0}}, 2,
                new int[] {1, 0, 0, 0}, 2),
        new State("full of 1", new int[][] {{0, 0, 0, 0}, {0, 0, 0, 0}, {0, 0, 0, 0}, {0, 0, 0, 0}}, 0, null, 0),
        new State("full, none in the group", new int[][] {{5, 0, 0, 0}, {0, -5, 0, 0}, {0, 0, 5, 0}, {5, -5, 5, 0}}, 3,
                new int[] {0, 0, 0, 1}, 0),
    };

    public static void main(String[] args) {
        for (State state : STATES) {
            checkState(state);
            List<Told> calls = new ArrayList<>();
            elementAndPut(state, calls);
            multiply(state, calls);
            rows(state, calls);
            testAndTimes(state, calls);
            questions(state, calls);
            checkEach(state, calls);
            checkTogether(state, calls);
        }
        System.out.println(asked + " calls that change nothing, " + wrong + " wrong");
        if (wrong != 0) {
            System.exit(1);
        }
    }

    private static void tell(State state, String what, String got, String want) {
        wrong++;
        System.out.println(state.name() + ": " + what + " answered " + got + ", due is " + want);
    }

    private static String answer(StructureRows x, Call call) {
        try {
            return "" + call.answer(x);
        } catch (RuntimeException e) {
            return "throws." + e.getClass().getSimpleName();
        }
    }

    private static long bit(boolean b) {
        return b ? 1 : 0;
    }

    private static StructureRows made(State state) {
        StructureRows x = new StructureRows();
        for (int element = 0; element < state.count(); element++) {
            x.element();
            for (int letter = 0; letter < 4; letter++) {
                x.put(element, letter, state.rows()[element][letter]);
            }
        }
        int[] t = state.test();
        if (t != null) {
            x.test(t[0], t[1], t[2], t[3]);
        }
        return x;
    }

    /** The state is the one that its hand-written numbers say. */
    private static void checkState(State state) {
        StructureRows x = made(state);
        dueIn(state, x, "count", state.count(), StructureRows::count);
        dueIn(state, x, "rank", state.rank(), StructureRows::rank);
        dueIn(state, x, "relations", state.relations(), StructureRows::relations);
        int[] t = state.test();
        if (t != null) {
            dueIn(state, x, "test", state.power(), y -> y.test(t[0], t[1], t[2], t[3]));
        }
    }

    private static void dueIn(State state, StructureRows x, String what, long want, Call call) {
        String got = answer(x, call);
        if (!got.equals("" + want)) {
            tell(state, what, got, "" + want);
        }
    }

    private static int[] indicesBeyond(int bound) {
        int[] all = java.util.Arrays.copyOf(FAR, FAR.length + 2);
        all[FAR.length] = bound;
        all[FAR.length + 1] = Math.max(4, bound + 1);
        return all;
    }

    private static void elementAndPut(State state, List<Told> calls) {
        if (state.count() == 4) {
            calls.add(new Told("element()", StructureRows::element, STATE));
        }
        for (int element : indicesBeyond(state.count())) {
            put(calls, element, 0, 1, INDEX);
            put(calls, element, 4, 6, INDEX);
            calls.add(new Told("at(" + element + ", 0)", x -> x.at(element, 0), INDEX));
        }
        for (int letter : indicesBeyond(4)) {
            put(calls, 0, letter, 1, INDEX);
            put(calls, state.count() - 1, letter, -6, INDEX);
            calls.add(new Told("at(0, " + letter + ")", x -> x.at(0, letter), INDEX));
        }
        for (int v : NO_EXPONENTS) {
            put(calls, 0, 3, v, state.count() > 0 ? ARGUMENT : INDEX);
            put(calls, state.count() - 1, 0, v, state.count() > 0 ? ARGUMENT : INDEX);
        }
        for (int element = 0; element < state.count(); element++) {
            put(calls, element, 0, state.rows()[element][0], "0");
            put(calls, element, 3, state.rows()[element][3], "0");
        }
    }

    private static void put(List<Told> calls, int element, int letter, int v, String due) {
        calls.add(new Told("put(" + element + ", " + letter + ", " + v + ")",
                x -> bit(x.put(element, letter, v)), due));
    }

    private static void multiply(State state, List<Told> calls) {
        int count = state.count();
        for (int element : indicesBeyond(count)) {
            multiply(calls, element, 0, 1, INDEX);
            multiply(calls, 0, element, 1, INDEX);
            multiply(calls, element, element, 6, INDEX);
        }
        for (int element = 0; element < count; element++) {
            multiply(calls, element, element, 0, ARGUMENT);
            multiply(calls, element, element, -6, ARGUMENT);
        }
        for (int power : NO_EXPONENTS) {
            multiply(calls, 0, 1, power, count > 1 ? ARGUMENT : INDEX);
            multiply(calls, count - 1, 0, power, count > 0 ? ARGUMENT : INDEX);
        }
        for (int element = 0; element < count; element++) {
            for (int by = 0; by < count; by++) {
                if (by != element && leaves(state.rows()[element], state.rows()[by], 5)) {
                    multiply(calls, element, by, 5, "0");
                }
                if (by != element && leaves(state.rows()[element], state.rows()[by], -1)) {
                    multiply(calls, element, by, -1, "0");
                }
            }
        }
    }

    private static boolean leaves(int[] row, int[] by, int power) {
        for (int letter = 0; letter < 4; letter++) {
            if (Math.abs(row[letter] + power * by[letter]) > 5) {
                return true;
            }
        }
        return false;
    }

    private static void multiply(List<Told> calls, int element, int by, int power, String due) {
        calls.add(new Told("multiply(" + element + ", " + by + ", " + power + ")",
                x -> bit(x.multiply(element, by, power)), due));
    }

    private static void rows(State state, List<Told> calls) {
        for (int row : indicesBeyond(state.relations())) {
            calls.add(new Told("relation(" + row + ", 0)", x -> x.relation(row, 0), INDEX));
        }
        for (int element : indicesBeyond(state.count())) {
            calls.add(new Told("relation(0, " + element + ")", x -> x.relation(0, element), INDEX));
        }
        for (int row : indicesBeyond(state.rank())) {
            calls.add(new Told("group(" + row + ", 0)", x -> x.group(row, 0), INDEX));
            calls.add(new Told("hull(" + row + ", 3)", x -> x.hull(row, 3), INDEX));
            calls.add(new Told("factor(" + row + ")", x -> x.factor(row), INDEX));
        }
        for (int letter : indicesBeyond(4)) {
            calls.add(new Told("group(0, " + letter + ")", x -> x.group(0, letter), INDEX));
            calls.add(new Told("hull(0, " + letter + ")", x -> x.hull(0, letter), INDEX));
        }
    }

    private static void testAndTimes(State state, List<Told> calls) {
        for (int v : NO_EXPONENTS) {
            calls.add(new Told("test(" + v + ", 0, 0, 0)", x -> x.test(v, 0, 0, 0), ARGUMENT));
            calls.add(new Told("test(1, " + v + ", 0, 0)", x -> x.test(1, v, 0, 0), ARGUMENT));
            calls.add(new Told("test(1, 2, " + v + ", 0)", x -> x.test(1, 2, v, 0), ARGUMENT));
            calls.add(new Told("test(1, 2, 3, " + v + ")", x -> x.test(1, 2, 3, v), ARGUMENT));
        }
        for (int row : indicesBeyond(state.rank())) {
            calls.add(new Told("times(" + row + ")", x -> x.times(row), state.isKnown() ? INDEX : STATE));
        }
    }

    /** Their answers are held against the document elsewhere; here they must only leave all as it was. */
    private static void questions(State state, List<Told> calls) {
        calls.add(new Told("count()", StructureRows::count, "" + state.count()));
        calls.add(new Told("rank()", StructureRows::rank, "" + state.rank()));
        calls.add(new Told("relations()", StructureRows::relations, "" + state.relations()));
        for (int i = 0; i < 4; i++) {
            int place = i;
            calls.add(new Told("at(" + i + ", 3)", x -> x.at(place, 3), null));
            calls.add(new Told("relation(" + i + ", 0)", x -> x.relation(place, 0), null));
            calls.add(new Told("group(" + i + ", 3)", x -> x.group(place, 3), null));
            calls.add(new Told("hull(" + i + ", 3)", x -> x.hull(place, 3), null));
            calls.add(new Told("factor(" + i + ")", x -> x.factor(place), null));
            calls.add(new Told("times(" + i + ")", x -> x.times(place), null));
        }
    }

    /** Each call alone, in an object whose bases were asked for ahead of it and in one where they weren't. */
    private static void checkEach(State state, List<Told> calls) {
        List<String> twin = everything(made(state));
        for (Told told : calls) {
            StructureRows x = made(state);
            callAndCompare(state, told, x);
            compare(state, told.text(), twin, everything(x));
            StructureRows settled = made(state);
            settled.rank();
            callAndCompare(state, told, settled);
            compare(state, "rank() and " + told.text(), twin, everything(settled));
        }
    }

    private static void checkTogether(State state, List<Told> calls) {
        List<String> twin = everything(made(state));
        int room = MOST_CALLS - 25 - twin.size();
        for (int start = 0; start < calls.size(); start += room) {
            StructureRows x = made(state);
            for (Told told : calls.subList(start, Math.min(calls.size(), start + room))) {
                callAndCompare(state, told, x);
            }
            compare(state, "all from " + start, twin, everything(x));
        }
    }

    private static void callAndCompare(State state, Told told, StructureRows x) {
        asked++;
        String got = answer(x, told.call());
        if (told.due() != null && !got.equals(told.due())) {
            tell(state, told.text(), got, told.due());
        }
    }

    private static void compare(State state, String what, List<String> want, List<String> got) {
        for (int i = 0; i < want.size(); i++) {
            if (!want.get(i).equals(got.get(i))) {
                tell(state, "behind " + what + ": " + i + "th answer", got.get(i), want.get(i));
                return;
            }
        }
    }

    /** All that can be asked: first what changes nothing, then powers, changes, and what is to be had behind them. */
    private static List<String> everything(StructureRows x) {
        List<String> all = new ArrayList<>();
        questions(x, all);
        powers(x, all);
        ask(x, all, "element()", StructureRows::element);
        ask(x, all, "put(0, 3, -4)", y -> bit(y.put(0, 3, -4)));
        ask(x, all, "multiply(0, 1, 1)", y -> bit(y.multiply(0, 1, 1)));
        ask(x, all, "multiply(1, 0, -1)", y -> bit(y.multiply(1, 0, -1)));
        questions(x, all);
        powers(x, all);
        ask(x, all, "clear()", y -> {
            y.clear();
            return 0;
        });
        ask(x, all, "times(0)", y -> y.times(0));
        ask(x, all, "element()", StructureRows::element);
        questions(x, all);
        return all;
    }

    private static void ask(StructureRows x, List<String> all, String text, Call call) {
        all.add(text + " = " + answer(x, call));
    }

    private static void questions(StructureRows x, List<String> all) {
        for (int i = 0; i < 4; i++) {
            int place = i;
            ask(x, all, "times(" + i + ")", y -> y.times(place));
        }
        ask(x, all, "count()", StructureRows::count);
        ask(x, all, "rank()", StructureRows::rank);
        ask(x, all, "relations()", StructureRows::relations);
        for (int i = 0; i < 4; i++) {
            int row = i;
            ask(x, all, "factor(" + i + ")", y -> y.factor(row));
            for (int j = 0; j < 4; j++) {
                int place = j;
                ask(x, all, "at(" + i + ", " + j + ")", y -> y.at(row, place));
                ask(x, all, "relation(" + i + ", " + j + ")", y -> y.relation(row, place));
                ask(x, all, "group(" + i + ", " + j + ")", y -> y.group(row, place));
                ask(x, all, "hull(" + i + ", " + j + ")", y -> y.hull(row, place));
            }
        }
    }

    private static void powers(StructureRows x, List<String> all) {
        int[][] tests = {{1, 1, 0, 0}, {5, -5, 5, -5}, {0, 0, 0, 1}};
        for (int[] t : tests) {
            ask(x, all, "test(" + t[0] + ", " + t[1] + ", ..)", y -> y.test(t[0], t[1], t[2], t[3]));
            for (int i = 0; i < 4; i++) {
                int row = i;
                ask(x, all, "times(" + i + ")", y -> y.times(row));
            }
        }
    }
}

import java.math.BigInteger;
import java.util.Random;

/**
 * Long runs of calls, right and wrong ones mixed, beside a plain model of the document: each call's answer or
 * exception, and so that no call changes what it must not. The model works with BigInteger and all rows at once.
 */
public final class RunsTest {
    private static final long SEED = 512L;
    private static final int CALLS = 512;
    private static final int RUNS = 400;

    private static int wrong = 0;

    public static void main(String[] args) {
        Random random = new Random(SEED);
        for (int run = 0; run < RUNS; run++) {
            oneRun(run, random);
        }
        System.out.println(RUNS + " runs of " + CALLS + " calls, " + wrong + " wrong");
        if (wrong != 0) {
            System.exit(1);
        }
    }

    private static void oneRun(int run, Random random) {
        StructureRows x = new StructureRows();
        Model model = new Model();
        int kind = 0;
        for (int call = 0; call < CALLS; call++) {
            kind = kind(kind, random);
            int[] a = arguments(kind, model, random);
            String want = model.answer(kind, a);
            String got = answer(x, kind, a);
            if (!want.equals(got)) {
                wrong++;
                System.out.println("run " + run + ", call " + call + ", " + Model.NAMES[kind]
                        + java.util.Arrays.toString(a) + " answered " + got + ", due is " + want);
                return;
            }
        }
    }

    /** The calls that undo much come seldom, and times often behind test, so that full objects are asked too. */
    private static int kind(int last, Random random) {
        if (last == 11 && random.nextInt(4) != 0) {
            return 12;
        }
        int roll = random.nextInt(44);
        return roll < 15 ? 2 : roll < 18 ? 11 : roll < 43 ? roll % 14 : random.nextInt(3) == 0 ? 14 : 1;
    }

    private static int[] arguments(int kind, Model model, Random random) {
        int[] a = new int[4];
        for (int i = 0; i < 4; i++) {
            a[i] = random.nextInt(25) == 0 ? extreme(random) : random.nextInt(4);
        }
        if (kind == 2) {
            a[2] = exponent(random);
        }
        if (kind == 4) {
            a[2] = random.nextInt(10) == 0 ? exponent(random) : random.nextInt(3) - 1;
        }
        if (kind == 7 || kind == 12) {
            a[0] = random.nextInt(3) == 0 ? a[0] : random.nextInt(2);
        }
        return kind == 11 ? exponents(model, random) : a;
    }

    /** Often an element's root or a sum of two elements, as a row by chance is seldom in the hull. */
    private static int[] exponents(Model model, Random random) {
        int[] a = new int[4];
        int count = model.elements.length;
        boolean fromElements = count > 0 && random.nextInt(3) != 0;
        int[] one = fromElements ? model.elements[random.nextInt(count)] : a;
        int[] other = fromElements ? model.elements[random.nextInt(count)] : a;
        int by = random.nextInt(3) - 1;
        int through = 1 + random.nextInt(2);
        for (int i = 0; i < 4; i++) {
            a[i] = fromElements ? (one[i] + by * other[i]) / through : exponent(random);
        }
        return a;
    }

    private static int extreme(Random random) {
        int[] all = {-1, -2, 5, 6, 100, Integer.MIN_VALUE, Integer.MAX_VALUE};
        return all[random.nextInt(all.length)];
    }

    private static int exponent(Random random) {
        int roll = random.nextInt(60);
        return roll == 0 ? extreme(random) : roll == 1 ? -6 : roll < 25 ? 0 : random.nextInt(11) - 5;
    }

    private static String answer(StructureRows x, int kind, int[] a) {
        try {
            switch (kind) {
                case 0: return "" + x.count();
                case 1: return "" + x.element();
                case 2: return "" + x.put(a[0], a[1], a[2]);
                case 3: return "" + x.at(a[0], a[1]);
                case 4: return "" + x.multiply(a[0], a[1], a[2]);
                case 5: return "" + x.rank();
                case 6: return "" + x.relations();
                case 7: return "" + x.relation(a[0], a[1]);
                case 8: return "" + x.group(a[0], a[1]);
                case 9: return "" + x.hull(a[0], a[1]);
                case 10: return "" + x.factor(a[0]);
                case 11: return "" + x.test(a[0], a[1], a[2], a[3]);
                case 12:
                case 13: return "" + x.times(a[0]);
                default:
                    x.clear();
                    return "";
            }
        } catch (RuntimeException e) {
            return e.getClass().getSimpleName();
        }
    }

    private static final class Model {
        static final String[] NAMES = {"count", "element", "put", "at", "multiply", "rank", "relations", "relation",
            "group", "hull", "factor", "test", "times", "times", "clear"};
        private static final String INDEX = "IndexOutOfBoundsException";
        private static final String ARGUMENT = "IllegalArgumentException";
        private static final String STATE = "IllegalStateException";

        private int[][] elements = new int[0][4];
        private long[] known = null;

        String answer(int kind, int[] a) {
            switch (kind) {
                case 0: return "" + elements.length;
                case 1: return addElement();
                case 2: return putOne(a[0], a[1], a[2]);
                case 3: return !isElement(a[0]) || !isLetter(a[1]) ? INDEX : "" + elements[a[0]][a[1]];
                case 4: return product(a[0], a[1], a[2]);
                case 5: return "" + groupBase().length;
                case 6: return "" + relationBase().length;
                case 7: return !isElement(a[1]) ? INDEX : number(relationBase(), a[0], a[1]);
                case 8: return number(groupBase(), a[0], a[1]);
                case 9: return number(hullBase(), a[0], a[1]);
                case 10: return smithFactor(a[0]);
                case 11: return leastPower(a);
                case 12:
                case 13: return share(a[0]);
                default:
                    elements = new int[0][4];
                    known = null;
                    return "";
            }
        }

        private boolean isElement(int element) {
            return element >= 0 && element < elements.length;
        }

        private static boolean isLetter(int letter) {
            return letter >= 0 && letter < 4;
        }

        private static boolean isExponent(int v) {
            return v >= -5 && v <= 5;
        }

        private String addElement() {
            if (elements.length == 4) {
                return STATE;
            }
            elements = java.util.Arrays.copyOf(elements, elements.length + 1);
            elements[elements.length - 1] = new int[4];
            known = null;
            return "" + (elements.length - 1);
        }

        private String putOne(int element, int letter, int v) {
            if (!isElement(element) || !isLetter(letter)) {
                return INDEX;
            }
            if (!isExponent(v)) {
                return ARGUMENT;
            }
            boolean another = elements[element][letter] != v;
            elements[element][letter] = v;
            known = another ? null : known;
            return "" + another;
        }

        private String product(int element, int by, int power) {
            if (!isElement(element) || !isElement(by)) {
                return INDEX;
            }
            if (element == by || !isExponent(power)) {
                return ARGUMENT;
            }
            int[] result = new int[4];
            boolean fits = true;
            for (int letter = 0; letter < 4; letter++) {
                result[letter] = elements[element][letter] + power * elements[by][letter];
                fits &= isExponent(result[letter]);
            }
            if (fits) {
                elements[element] = result;
                known = null;
            }
            return "" + fits;
        }

        private static String number(long[][] base, int row, int column) {
            boolean there = row >= 0 && row < base.length && isLetter(column);
            return there ? "" + base[row][column] : INDEX;
        }

        private String leastPower(int[] v) {
            for (int number : v) {
                if (!isExponent(number)) {
                    return ARGUMENT;
                }
            }
            known = null;
            long[][] base = groupBase();
            for (long power = 1; power <= 10000; power++) {
                long[] multiple = {power * v[0], power * v[1], power * v[2], power * v[3]};
                if (shares(base, multiple) != null) {
                    known = multiple;
                    return "" + power;
                }
            }
            return "0";
        }

        private String share(int row) {
            if (known == null) {
                return STATE;
            }
            long[] shares = shares(groupBase(), known);
            return row < 0 || row >= shares.length ? INDEX : "" + shares[row];
        }

        private static long[] shares(long[][] base, long[] v) {
            long[] rest = v.clone();
            long[] shares = new long[base.length];
            for (int row = 0; row < base.length; row++) {
                int begin = 0;
                while (base[row][begin] == 0) {
                    begin++;
                }
                shares[row] = Math.floorDiv(rest[begin], base[row][begin]);
                for (int column = 0; column < 4; column++) {
                    rest[column] -= shares[row] * base[row][column];
                }
            }
            return rest[0] == 0 && rest[1] == 0 && rest[2] == 0 && rest[3] == 0 ? shares : null;
        }

        private long[][] groupBase() {
            return part(base(big(elements)), 0, 4, false);
        }

        private long[][] relationBase() {
            BigInteger[][] wide = new BigInteger[elements.length][4 + elements.length];
            for (int row = 0; row < wide.length; row++) {
                for (int column = 0; column < wide[row].length; column++) {
                    int unit = column - 4 == row ? 1 : 0;
                    wide[row][column] = BigInteger.valueOf(column < 4 ? elements[row][column] : unit);
                }
            }
            return part(base(wide), 4, elements.length, true);
        }

        /** The group with all missing roots put in, a prime after the other. */
        private long[][] hullBase() {
            long[][] rows = groupBase();
            for (long prime = 2; prime <= beginningsProduct(rows); prime++) {
                long[] root = root(rows, prime);
                while (root != null) {
                    rows = withRow(rows, root);
                    root = root(rows, prime);
                }
            }
            return rows;
        }

        private static long beginningsProduct(long[][] rows) {
            long product = 1;
            for (long[] row : rows) {
                int begin = 0;
                while (row[begin] == 0) {
                    begin++;
                }
                product *= row[begin];
            }
            return product;
        }

        private static long[][] withRow(long[][] rows, long[] last) {
            BigInteger[][] more = new BigInteger[rows.length + 1][4];
            for (int row = 0; row < more.length; row++) {
                for (int column = 0; column < 4; column++) {
                    more[row][column] = BigInteger.valueOf(row < rows.length ? rows[row][column] : last[column]);
                }
            }
            return part(base(more), 0, 4, false);
        }

        private static long[] divided(long[][] rows, long[] powers, long prime) {
            long[] sum = new long[4];
            for (int row = 0; row < rows.length; row++) {
                for (int column = 0; column < 4; column++) {
                    sum[column] += powers[row] * rows[row][column];
                }
            }
            for (int column = 0; column < 4; column++) {
                if (sum[column] % prime != 0) {
                    return null;
                }
                sum[column] /= prime;
            }
            return sum;
        }

        /** A row that the rows don't make, but its multiple by the prime: the rows are dependent modulo the prime. */
        private static long[] root(long[][] rows, long prime) {
            BigInteger p = BigInteger.valueOf(prime);
            if (beginningsProduct(rows) % prime != 0 || !p.isProbablePrime(40)) {
                return null;
            }
            int n = rows.length;
            long[][] wide = new long[n][4 + n];
            for (int row = 0; row < n; row++) {
                for (int column = 0; column < 4; column++) {
                    wide[row][column] = Math.floorMod(rows[row][column], prime);
                }
                wide[row][4 + row] = 1;
            }
            int done = 0;
            for (int column = 0; column < 4; column++) {
                int found = done;
                while (found < n && wide[found][column] == 0) {
                    found++;
                }
                if (found >= n) {
                    continue;
                }
                long[] kept = wide[found];
                wide[found] = wide[done];
                wide[done] = kept;
                long inverse = BigInteger.valueOf(kept[column]).modInverse(p).longValue();
                for (int row = done + 1; row < n; row++) {
                    long by = wide[row][column] * inverse % prime;
                    for (int c = 0; c < 4 + n; c++) {
                        wide[row][c] = Math.floorMod(wide[row][c] - by * kept[c], prime);
                    }
                }
                done++;
            }
            return done == n ? null : divided(rows, java.util.Arrays.copyOfRange(wide[done], 4, 4 + n), prime);
        }

        /** The factors by turning the rows into a diagonal, each number dividing the next. */
        private String smithFactor(int k) {
            BigInteger[][] m = big(elements);
            int rank = groupBase().length;
            if (k < 0 || k >= rank) {
                return INDEX;
            }
            BigInteger[] diagonal = new BigInteger[rank];
            for (int d = 0; d < rank; d++) {
                clearCross(m, d);
                diagonal[d] = m[d][d].abs();
            }
            for (int i = 0; i < rank; i++) {
                for (int j = i + 1; j < rank; j++) {
                    BigInteger common = diagonal[i].gcd(diagonal[j]);
                    diagonal[j] = diagonal[j].divide(common).multiply(diagonal[i]);
                    diagonal[i] = common;
                }
            }
            return diagonal[k].toString();
        }

        private static void clearCross(BigInteger[][] m, int d) {
            while (true) {
                int bestRow = -1;
                int bestColumn = -1;
                for (int row = d; row < m.length; row++) {
                    for (int column = d; column < 4; column++) {
                        boolean candidate = m[row][column].signum() != 0;
                        if (candidate && (bestRow < 0
                                || m[row][column].abs().compareTo(m[bestRow][bestColumn].abs()) < 0)) {
                            bestRow = row;
                            bestColumn = column;
                        }
                    }
                }
                BigInteger[] kept = m[d];
                m[d] = m[bestRow];
                m[bestRow] = kept;
                for (BigInteger[] row : m) {
                    BigInteger number = row[d];
                    row[d] = row[bestColumn];
                    row[bestColumn] = number;
                }
                if (isCrossClear(m, d)) {
                    return;
                }
            }
        }

        private static boolean isCrossClear(BigInteger[][] m, int d) {
            boolean clear = true;
            for (int row = d + 1; row < m.length; row++) {
                BigInteger by = m[row][d].divide(m[d][d]);
                for (int column = d; column < 4; column++) {
                    m[row][column] = m[row][column].subtract(by.multiply(m[d][column]));
                }
                clear &= m[row][d].signum() == 0;
            }
            for (int column = d + 1; column < 4; column++) {
                BigInteger by = m[d][column].divide(m[d][d]);
                for (int row = d; row < m.length; row++) {
                    m[row][column] = m[row][column].subtract(by.multiply(m[row][d]));
                }
                clear &= m[d][column].signum() == 0;
            }
            return clear;
        }

        private static BigInteger[][] big(int[][] rows) {
            BigInteger[][] result = new BigInteger[rows.length][4];
            for (int row = 0; row < rows.length; row++) {
                for (int column = 0; column < 4; column++) {
                    result[row][column] = BigInteger.valueOf(rows[row][column]);
                }
            }
            return result;
        }

        /** All rows at once, a column after the other; rows that become 0 stay at the end. */
        private static BigInteger[][] base(BigInteger[][] m) {
            int done = 0;
            for (int column = 0; m.length > 0 && column < m[0].length && done < m.length; column++) {
                for (int row = done + 1; row < m.length; row++) {
                    while (m[row][column].signum() != 0) {
                        subtract(m[done], m[row], m[done][column].divide(m[row][column]));
                        BigInteger[] kept = m[done];
                        m[done] = m[row];
                        m[row] = kept;
                    }
                }
                if (m[done][column].signum() != 0) {
                    if (m[done][column].signum() < 0) {
                        subtract(m[done], m[done].clone(), BigInteger.TWO);
                    }
                    for (int row = 0; row < done; row++) {
                        BigInteger rest = m[row][column].mod(m[done][column]);
                        subtract(m[row], m[done], m[row][column].subtract(rest).divide(m[done][column]));
                    }
                    done++;
                }
            }
            return m;
        }

        private static void subtract(BigInteger[] row, BigInteger[] other, BigInteger by) {
            for (int column = 0; column < row.length; column++) {
                row[column] = row[column].subtract(by.multiply(other[column]));
            }
        }

        /** The rows that aren't 0 in the columns asked for, and, if told so, are 0 in all columns ahead. */
        private static long[][] part(BigInteger[][] m, int from, int width, boolean zeroAhead) {
            java.util.ArrayList<long[]> rows = new java.util.ArrayList<>();
            for (BigInteger[] row : m) {
                boolean ahead = false;
                boolean inside = false;
                for (int column = 0; column < from + width; column++) {
                    boolean there = row[column].signum() != 0;
                    ahead |= there && column < from;
                    inside |= there && column >= from;
                }
                if (inside && !(zeroAhead && ahead)) {
                    long[] numbers = new long[width];
                    for (int column = 0; column < width; column++) {
                        numbers[column] = row[from + column].longValueExact();
                    }
                    rows.add(numbers);
                }
            }
            return rows.toArray(new long[0][]);
        }
    }
}

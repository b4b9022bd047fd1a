/**
 * Products of powers of four letters: the relations between them, the group that they make, its hull,
 * and which power of a product is in the group. README.md tells how it is used.
 */
public final class StructureRows {
    private static final int LETTERS = 4;
    private static final int MOST_ELEMENTS = 4;
    private static final int GREATEST_EXPONENT = 5;
    /** Far above what Euclid's steps on any numbers of this class can need. */
    private static final int MOST_STEPS = 1000;

    private final int[] exponents;
    private int count;
    private final Reduction byElement;
    private final Reduction byLetter;
    private final Reduction hullByLetter;
    private boolean settled;
    private final Minors minors;
    private final Power knownPower;

    public StructureRows() {
        exponents = new int[MOST_ELEMENTS * LETTERS];
        byElement = new Reduction();
        byLetter = new Reduction();
        hullByLetter = new Reduction();
        minors = new Minors();
        knownPower = new Power();
    }

    public int element() throws IllegalStateException {
        if (count >= MOST_ELEMENTS) {
            throw new IllegalStateException("there are 4 elements");
        }
        for (int letter = 0; letter < LETTERS; letter++) {
            exponents[count * LETTERS + letter] = 0;
        }
        count++;
        forgetAnswers();
        return count - 1;
    }

    public boolean put(int element, int letter, int v) throws IndexOutOfBoundsException, IllegalArgumentException {
        requireElement(element);
        requireLetter(letter);
        requireExponent(v);
        int place = element * LETTERS + letter;
        if (exponents[place] == v) {
            return false;
        }
        exponents[place] = v;
        forgetAnswers();
        return true;
    }

    public int at(int element, int letter) throws IndexOutOfBoundsException {
        requireElement(element);
        requireLetter(letter);
        return exponents[element * LETTERS + letter];
    }

    public boolean multiply(int element, int by, int power)
            throws IndexOutOfBoundsException, IllegalArgumentException {
        requireElement(element);
        requireElement(by);
        if (element == by) {
            throw new IllegalArgumentException("both are the same element");
        }
        requireExponent(power);
        int to = element * LETTERS;
        int from = by * LETTERS;
        for (int letter = 0; letter < LETTERS; letter++) {
            if (!isExponent(exponents[to + letter] + power * exponents[from + letter])) {
                return false;
            }
        }
        for (int letter = 0; letter < LETTERS; letter++) {
            exponents[to + letter] += power * exponents[from + letter];
        }
        forgetAnswers();
        return true;
    }

    public int rank() {
        settle();
        return byElement.imageRows();
    }

    public int relations() {
        settle();
        return byElement.kernelRows();
    }

    public long relation(int row, int element) throws IndexOutOfBoundsException {
        settle();
        requireBelow(row, byElement.kernelRows());
        requireElement(element);
        return byElement.kernel(row, element);
    }

    public long group(int row, int letter) throws IndexOutOfBoundsException {
        settle();
        requireBelow(row, byElement.imageRows());
        requireLetter(letter);
        return byElement.image(row, letter);
    }

    public long hull(int row, int letter) throws IndexOutOfBoundsException {
        settle();
        requireBelow(row, hullByLetter.kernelRows());
        requireLetter(letter);
        return hullByLetter.kernel(row, letter);
    }

    public long factor(int k) throws IndexOutOfBoundsException {
        settle();
        requireBelow(k, byElement.imageRows());
        minors.expand(exponents, count);
        long smaller = minors.divisor(k);
        return smaller > 0 ? minors.divisor(k + 1) / smaller : 0;
    }

    public long test(int a, int b, int c, int d) throws IllegalArgumentException {
        requireExponent(a);
        requireExponent(b);
        requireExponent(c);
        requireExponent(d);
        settle();
        knownPower.start(a, b, c, d);
        return knownPower.find(byElement);
    }

    public long times(int row) throws IllegalStateException, IndexOutOfBoundsException {
        if (!knownPower.isKnown()) {
            throw new IllegalStateException("no power is known");
        }
        settle();
        requireBelow(row, byElement.imageRows());
        return knownPower.share(row);
    }

    public int count() {
        return count;
    }

    public void clear() {
        count = 0;
        forgetAnswers();
    }

    private void forgetAnswers() {
        settled = false;
        knownPower.forget();
    }

    /**
     * Works out all bases anew after a change. The hull is what is orthogonal to all that is orthogonal to
     * the group, so two kernels, one after the other, lead to it.
     */
    private void settle() {
        if (settled) {
            return;
        }
        byElement.open(count, LETTERS);
        byLetter.open(LETTERS, count);
        for (int element = 0; element < count; element++) {
            for (int letter = 0; letter < LETTERS; letter++) {
                int exponent = exponents[element * LETTERS + letter];
                byElement.set(element, letter, exponent);
                byLetter.set(letter, element, exponent);
            }
        }
        byElement.reduce();
        byLetter.reduce();
        int orthogonal = byLetter.kernelRows();
        hullByLetter.open(LETTERS, orthogonal);
        for (int row = 0; row < orthogonal; row++) {
            for (int letter = 0; letter < LETTERS; letter++) {
                hullByLetter.set(letter, row, byLetter.kernel(row, letter));
            }
        }
        hullByLetter.reduce();
        settled = true;
    }

    private void requireElement(int element) {
        requireBelow(element, count);
    }

    private static void requireLetter(int letter) {
        requireBelow(letter, LETTERS);
    }

    private static void requireBelow(int index, int bound) {
        if (index < 0 || index >= bound) {
            throw new IndexOutOfBoundsException("no such element, letter, row or factor");
        }
    }

    private static void requireExponent(int v) {
        if (!isExponent(v)) {
            throw new IllegalArgumentException("a number isn't -5 .. 5");
        }
    }

    private static boolean isExponent(int v) {
        return v >= -GREATEST_EXPONENT && v <= GREATEST_EXPONENT;
    }

    private static long commonDivisor(long a, long b) {
        long greater = Math.abs(a);
        long smaller = Math.abs(b);
        for (int step = 0; step < MOST_STEPS && smaller != 0; step++) {
            long rest = greater % smaller;
            greater = smaller;
            smaller = rest;
        }
        return greater;
    }

    /**
     * Rows of whole numbers, each with a row of the unit matrix behind it, brought to their BASE.
     * The unit rows keep the way in which each row came from those at the start. So the rows that begin ahead
     * of the unit columns are there the BASE of all sums (the image), and the others have behind it the BASE
     * of all combinations that give 0 (the kernel).
     */
    private static final class Reduction {
        private static final int MOST_ROWS = 4;
        private static final int MOST_COLUMNS = 8;

        private final long[] cells;
        private final int[] beginnings;
        private int height;
        private int width;
        private int imageHeight;

        Reduction() {
            cells = new long[MOST_ROWS * MOST_COLUMNS];
            beginnings = new int[MOST_ROWS];
        }

        /** Takes at most 4 rows and at most 4 columns ahead of the unit columns, all 0 at first. */
        void open(int rows, int columns) {
            height = Math.max(0, Math.min(rows, MOST_ROWS));
            width = Math.max(0, Math.min(columns, MOST_COLUMNS - MOST_ROWS));
            for (int place = 0; place < MOST_ROWS * MOST_COLUMNS; place++) {
                cells[place] = 0;
            }
            for (int row = 0; row < height; row++) {
                set(row, width + row, 1);
            }
        }

        void set(int row, int column, long v) {
            cells[row * MOST_COLUMNS + column] = v;
        }

        int imageRows() {
            return imageHeight;
        }

        int kernelRows() {
            return height - imageHeight;
        }

        long image(int row, int column) {
            return cell(row, column);
        }

        long kernel(int row, int column) {
            return cell(imageHeight + row, width + column);
        }

        /**
         * The rows are taken in one at a time, and all are kept small in between: a BASE of such rows has no
         * number above some 50,000, but rows left as Euclid's steps make them would grow towards the end of long.
         */
        void reduce() {
            for (int row = 0; row < height; row++) {
                takeIn(row);
            }
            imageHeight = 0;
            for (int row = 0; row < height; row++) {
                if (beginnings[row] < width) {
                    imageHeight++;
                }
            }
        }

        /** The rows ahead of the newest are a BASE; makes one of them and it. Its unit row keeps it from being 0. */
        private void takeIn(int newest) {
            int next = 0;
            for (int column = 0; column < width + height; column++) {
                boolean begins = next < newest && beginnings[next] == column;
                if (cell(newest, column) != 0 && begins) {
                    clearNewest(next, newest, column);
                    keepSmall(newest, newest);
                } else if (cell(newest, column) != 0) {
                    moveAhead(newest, next, column);
                    keepSmall(newest + 1, newest);
                    return;
                }
                if (begins) {
                    next++;
                }
            }
        }

        /** Euclid's steps between the two rows: what is left at the column is in the first of them. */
        private void clearNewest(int row, int newest, int column) {
            for (int step = 0; step < MOST_STEPS && cell(newest, column) != 0; step++) {
                takeAway(row, newest, cell(row, column) / cell(newest, column));
                swap(row, newest);
            }
            if (cell(row, column) < 0) {
                turnSigns(row);
            }
        }

        private void moveAhead(int newest, int to, int column) {
            for (int row = newest; row > to; row--) {
                swap(row, row - 1);
                beginnings[row] = beginnings[row - 1];
            }
            beginnings[to] = column;
            if (cell(to, column) < 0) {
                turnSigns(to);
            }
        }

        /** Brings all rows ahead of a base row, and the newest if it is none yet, below its beginning there. */
        private void keepSmall(int baseRows, int newest) {
            for (int base = 0; base < baseRows; base++) {
                int column = beginnings[base];
                long beginning = cell(base, column);
                for (int row = 0; row <= newest; row++) {
                    if (beginning > 0 && (row < base || row >= baseRows)) {
                        takeAway(row, base, Math.floorDiv(cell(row, column), beginning));
                    }
                }
            }
        }

        private void turnSigns(int row) {
            for (int column = 0; column < width + height; column++) {
                set(row, column, -cell(row, column));
            }
        }

        private void takeAway(int row, int other, long howOften) {
            if (howOften == 0) {
                return;
            }
            for (int column = 0; column < width + height; column++) {
                set(row, column, cell(row, column) - howOften * cell(other, column));
            }
        }

        private void swap(int row, int other) {
            for (int column = 0; column < width + height; column++) {
                long kept = cell(row, column);
                set(row, column, cell(other, column));
                set(other, column, kept);
            }
        }

        private long cell(int row, int column) {
            return cells[row * MOST_COLUMNS + column];
        }
    }

    /** All determinants of some rows and as many columns of the exponents, by the bits of both sets. */
    private static final class Minors {
        private static final int COLUMN_SETS = 1 << LETTERS;

        private final long[] values;
        private int rowSets;

        Minors() {
            values = new long[(1 << MOST_ELEMENTS) * COLUMN_SETS];
        }

        void expand(int[] exponents, int rows) {
            values[0] = 1;
            rowSets = 1 << rows;
            for (int last = 0; last < rows; last++) {
                int lastBit = 1 << last;
                for (int ahead = 0; ahead < lastBit; ahead++) {
                    for (int columns = 1; columns < COLUMN_SETS; columns++) {
                        if (Integer.bitCount(columns) == Integer.bitCount(ahead) + 1) {
                            values[(lastBit | ahead) * COLUMN_SETS + columns] =
                                    alongLastRow(exponents, last, ahead, columns);
                        }
                    }
                }
            }
        }

        /** The signs go from right to left, as the last row's last place has + in every determinant. */
        private long alongLastRow(int[] exponents, int last, int ahead, int columns) {
            long sum = 0;
            long sign = 1;
            for (int letter = LETTERS - 1; letter >= 0; letter--) {
                int bit = 1 << letter;
                if ((columns & bit) != 0) {
                    long rest = values[ahead * COLUMN_SETS + (columns ^ bit)];
                    sum += sign * exponents[last * LETTERS + letter] * rest;
                    sign = -sign;
                }
            }
            return sum;
        }

        /** The greatest number that divides all determinants of that size; 1 for size 0. */
        long divisor(int size) {
            long divisor = 0;
            for (int rows = 0; rows < rowSets; rows++) {
                for (int columns = 0; columns < COLUMN_SETS; columns++) {
                    if (Integer.bitCount(rows) == size && Integer.bitCount(columns) == size) {
                        divisor = commonDivisor(divisor, values[rows * COLUMN_SETS + columns]);
                    }
                }
            }
            return divisor;
        }
    }

    /** The power that is known: how often each row of the group's base is in it. */
    private static final class Power {
        private final long[] rest;
        private final long[] shares;
        private boolean known;

        Power() {
            rest = new long[LETTERS];
            shares = new long[LETTERS];
        }

        boolean isKnown() {
            return known;
        }

        long share(int row) {
            return shares[row];
        }

        void forget() {
            known = false;
        }

        void start(int a, int b, int c, int d) {
            rest[0] = a;
            rest[1] = b;
            rest[2] = c;
            rest[3] = d;
        }

        /** The least multiple of the row at the start that is in the group; 0 if none is. */
        long find(Reduction group) {
            long multiple = 1;
            int row = 0;
            for (int column = 0; column < LETTERS; column++) {
                long beginning = row < group.imageRows() ? group.image(row, column) : 0;
                if (beginning > 0) {
                    long missing = missingMultiple(beginning, rest[column]);
                    multiple *= missing;
                    widen(missing, row);
                    shares[row] = rest[column] / beginning;
                    takeAwayShare(group, row);
                    row++;
                }
            }
            known = isNothingLeft();
            return known ? multiple : 0;
        }

        /** By which least number v must be multiplied so that the beginning divides it. */
        private static long missingMultiple(long beginning, long v) {
            long common = commonDivisor(beginning, v);
            return common > 0 ? beginning / common : 1;
        }

        private void widen(long by, int rowsDone) {
            for (int column = 0; column < LETTERS; column++) {
                rest[column] *= by;
            }
            for (int row = 0; row < rowsDone; row++) {
                shares[row] *= by;
            }
        }

        private void takeAwayShare(Reduction group, int row) {
            for (int column = 0; column < LETTERS; column++) {
                rest[column] -= shares[row] * group.image(row, column);
            }
        }

        private boolean isNothingLeft() {
            for (int column = 0; column < LETTERS; column++) {
                if (rest[column] != 0) {
                    return false;
                }
            }
            return true;
        }
    }
}

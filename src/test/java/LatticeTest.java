import java.util.Random;

/**
 * Many sets of elements, each answer held against the document's own words: the shape of a BASE, sums and
 * multiples by exact arithmetic, determinants by permutations. Nothing here is worked out as the class does it.
 */
public final class LatticeTest {
    private static final long SEED = 20261115L;
    private static final int[][] PERMUTATIONS_OF_4 = permutations(4);

    private static int wrong = 0;
    private static long sets = 0;

    public static void main(String[] args) {
        Random random = new Random(SEED);
        for (int i = 0; i < 6000; i++) {
            check(randomSet(random, random.nextInt(5), 1 + random.nextInt(5)), random);
        }
        for (int i = 0; i < 3000; i++) {
            check(thinSet(random), random);
        }
        for (int i = 0; i < 3000; i++) {
            check(dependentSet(random), random);
        }
        for (int signs = 0; signs < 1 << 16; signs += 37) {
            check(signSet(signs), random);
        }
        for (int[][] set : smallSets()) {
            check(set, random);
        }
        System.out.println(sets + " sets of elements, " + wrong + " wrong");
        if (wrong != 0) {
            System.exit(1);
        }
    }

    private static int[][] randomSet(Random random, int count, int greatest) {
        int[][] set = new int[count][4];
        for (int[] element : set) {
            for (int letter = 0; letter < 4; letter++) {
                element[letter] = random.nextInt(2 * greatest + 1) - greatest;
            }
        }
        return set;
    }

    private static int[][] thinSet(Random random) {
        int[][] set = randomSet(random, 1 + random.nextInt(4), 5);
        for (int[] element : set) {
            for (int letter = 0; letter < 4; letter++) {
                if (random.nextInt(5) < 3) {
                    element[letter] = 0;
                }
            }
        }
        return set;
    }

    /** Sums of few short rows, so that the rank stays below the count. */
    private static int[][] dependentSet(Random random) {
        int[][] roots = randomSet(random, 1 + random.nextInt(3), 2);
        int[][] set = new int[2 + random.nextInt(3)][4];
        for (int[] element : set) {
            for (int tries = 0; tries < 6; tries++) {
                int[] root = roots[random.nextInt(roots.length)];
                addIfSmall(element, root, random.nextBoolean() ? 1 : -1);
            }
        }
        return set;
    }

    private static void addIfSmall(int[] element, int[] root, int sign) {
        for (int letter = 0; letter < 4; letter++) {
            if (Math.abs(element[letter] + sign * root[letter]) > 5) {
                return;
            }
        }
        for (int letter = 0; letter < 4; letter++) {
            element[letter] += sign * root[letter];
        }
    }

    private static int[][] signSet(int signs) {
        int[][] set = new int[4][4];
        for (int place = 0; place < 16; place++) {
            set[place / 4][place % 4] = (signs >> place & 1) == 0 ? 5 : -5;
        }
        return set;
    }

    private static int[][][] smallSets() {
        int[][][] all = new int[11 * 11 * 11][][];
        for (int i = 0; i < all.length; i++) {
            all[i] = new int[][] {{i % 11 - 5, i / 11 % 11 - 5, 0, 0}, {0, i / 121 % 11 - 5, 3, 0}};
        }
        return all;
    }

    private static void check(int[][] set, Random random) {
        sets++;
        int before = wrong;
        StructureRows x = new StructureRows();
        for (int[] element : set) {
            int number = x.element();
            for (int letter = 0; letter < 4; letter++) {
                x.put(number, letter, element[letter]);
            }
        }
        int rank = rankOf(set);
        must(x.rank() == rank, "rank");
        must(x.relations() == set.length - rank, "relations");
        if (wrong == before) {
            checkBases(x, set, rank);
            checkFactors(x, set, rank);
            checkPowers(x, set, rank, random);
        }
        if (wrong != before) {
            System.out.println("  with the elements " + java.util.Arrays.deepToString(set));
        }
    }

    private static void checkBases(StructureRows x, int[][] set, int rank) {
        long[][] elements = longs(set);
        long[][] group = new long[rank][4];
        long[][] hull = new long[rank][4];
        long[][] relations = new long[set.length - rank][set.length];
        for (int row = 0; row < rank; row++) {
            for (int letter = 0; letter < 4; letter++) {
                group[row][letter] = x.group(row, letter);
                hull[row][letter] = x.hull(row, letter);
            }
        }
        for (int row = 0; row < relations.length; row++) {
            for (int element = 0; element < set.length; element++) {
                relations[row][element] = x.relation(row, element);
            }
        }
        must(isBase(group), "shape of the group's base");
        must(isBase(hull), "shape of the hull's base");
        must(isBase(relations), "shape of the relations' base");
        for (long[] element : elements) {
            must(shares(group, element) != null, "an element in the group");
        }
        for (long[] row : group) {
            must(shares(hull, row) != null, "the group in the hull");
        }
        // a set of rows in another of as many parts is the same one if the greatest divisors are the same
        must(divisor(group, rank) == divisor(elements, rank), "the group is not more than the elements make");
        must(divisor(hull, rank) == 1, "the hull has all roots");
        must(divisor(relations, relations.length) == 1, "the relations have all roots");
        for (long[] relation : relations) {
            must(isZero(product(relation, elements)), "a relation gives 1");
        }
    }

    private static void checkFactors(StructureRows x, int[][] set, int rank) {
        long[][] elements = longs(set);
        long ahead = 1;
        for (int k = 0; k < rank; k++) {
            long divisor = divisor(elements, k + 1);
            must(x.factor(k) * ahead == divisor, "factor " + k);
            ahead = divisor;
        }
    }

    private static void checkPowers(StructureRows x, int[][] set, int rank, Random random) {
        long[][] group = new long[rank][4];
        for (int row = 0; row < rank; row++) {
            for (int letter = 0; letter < 4; letter++) {
                group[row][letter] = x.group(row, letter);
            }
        }
        for (int i = 0; i < 10; i++) {
            int[] v = i < 5 ? randomSet(random, 1, 5)[0] : hullRow(x, rank, random);
            checkPower(x, set, group, v);
        }
    }

    private static int[] hullRow(StructureRows x, int rank, Random random) {
        int[] v = new int[4];
        for (int row = 0; row < rank; row++) {
            int[] root = new int[4];
            boolean small = true;
            for (int letter = 0; letter < 4; letter++) {
                long number = x.hull(row, letter);
                small &= Math.abs(number) <= 5;
                root[letter] = (int) number;
            }
            if (small) {
                addIfSmall(v, root, random.nextInt(3) - 1);
            }
        }
        return v;
    }

    private static void checkPower(StructureRows x, int[][] set, long[][] group, int[] v) {
        long power = x.test(v[0], v[1], v[2], v[3]);
        if (power == 0) {
            int[][] more = java.util.Arrays.copyOf(set, set.length + 1);
            more[set.length] = v;
            must(rankOf(more) > group.length, "a power of " + java.util.Arrays.toString(v) + " is in the group");
            must(throwsState(x), "none is known");
            return;
        }
        must(power > 0, "a power above 0");
        long[] times = new long[group.length];
        for (int row = 0; row < group.length; row++) {
            times[row] = x.times(row);
        }
        must(isZero(minus(product(times, group), scaled(v, power))), "times gives the power");
        for (long prime = 2; prime <= power; prime++) {
            if (power % prime == 0) {
                must(shares(group, scaled(v, power / prime)) == null, "the least power");
            }
        }
    }

    private static boolean throwsState(StructureRows x) {
        try {
            x.times(0);
            return false;
        } catch (IllegalStateException e) {
            return true;
        }
    }

    private static void must(boolean holds, String what) {
        if (!holds) {
            wrong++;
            System.out.println("does not hold: " + what);
        }
    }

    private static boolean isBase(long[][] rows) {
        int last = -1;
        for (int i = 0; i < rows.length; i++) {
            int begin = beginning(rows[i]);
            if (begin <= last || rows[i][begin] <= 0) {
                return false;
            }
            for (int ahead = 0; ahead < i; ahead++) {
                if (rows[ahead][begin] < 0 || rows[ahead][begin] >= rows[i][begin]) {
                    return false;
                }
            }
            last = begin;
        }
        return true;
    }

    private static int beginning(long[] row) {
        for (int column = 0; column < row.length; column++) {
            if (row[column] != 0) {
                return column;
            }
        }
        return -1;
    }

    /** How often each row of a base is in v, or null if v isn't a sum of whole multiples. */
    private static long[] shares(long[][] base, long[] v) {
        long[] rest = v.clone();
        long[] shares = new long[base.length];
        for (int row = 0; row < base.length; row++) {
            int begin = beginning(base[row]);
            if (rest[begin] % base[row][begin] != 0) {
                return null;
            }
            shares[row] = rest[begin] / base[row][begin];
            for (int column = 0; column < rest.length; column++) {
                rest[column] = Math.subtractExact(rest[column], Math.multiplyExact(shares[row], base[row][column]));
            }
        }
        return isZero(rest) ? shares : null;
    }

    private static long[] product(long[] powers, long[][] rows) {
        long[] sum = new long[4];
        for (int row = 0; row < rows.length; row++) {
            for (int letter = 0; letter < 4; letter++) {
                sum[letter] = Math.addExact(sum[letter], Math.multiplyExact(powers[row], rows[row][letter]));
            }
        }
        return sum;
    }

    private static long[] scaled(int[] v, long by) {
        long[] result = new long[v.length];
        for (int i = 0; i < v.length; i++) {
            result[i] = Math.multiplyExact(by, v[i]);
        }
        return result;
    }

    private static long[] minus(long[] a, long[] b) {
        long[] result = new long[a.length];
        for (int i = 0; i < a.length; i++) {
            result[i] = Math.subtractExact(a[i], b[i]);
        }
        return result;
    }

    private static boolean isZero(long[] row) {
        return beginning(row) < 0;
    }

    private static long[][] longs(int[][] set) {
        long[][] rows = new long[set.length][];
        for (int i = 0; i < set.length; i++) {
            rows[i] = scaled(set[i], 1);
        }
        return rows;
    }

    private static int rankOf(int[][] set) {
        int rank = 0;
        for (int size = 1; size <= Math.min(4, set.length); size++) {
            if (divisor(longs(set), size) != 0) {
                rank = size;
            }
        }
        return rank;
    }

    /** The greatest number that divides all determinants of that many rows and columns; 1 for none. */
    private static long divisor(long[][] rows, int size) {
        if (size == 0) {
            return 1;
        }
        long divisor = 0;
        for (int rowBits = 0; rowBits < 1 << rows.length; rowBits++) {
            if (Integer.bitCount(rowBits) != size) {
                continue;
            }
            for (int columnBits = 0; columnBits < 1 << rows[0].length; columnBits++) {
                if (Integer.bitCount(columnBits) == size) {
                    divisor = gcd(divisor, Math.abs(determinant(rows, places(rowBits), places(columnBits))));
                }
            }
        }
        return divisor;
    }

    private static int[] places(int bits) {
        int[] places = new int[Integer.bitCount(bits)];
        int next = 0;
        for (int place = 0; place < 8; place++) {
            if ((bits >> place & 1) != 0) {
                places[next++] = place;
            }
        }
        return places;
    }

    private static long determinant(long[][] rows, int[] rowPlaces, int[] columnPlaces) {
        int size = rowPlaces.length;
        long sum = 0;
        for (int[] permutation : size == 4 ? PERMUTATIONS_OF_4 : permutations(size)) {
            long term = sign(permutation);
            for (int i = 0; i < size; i++) {
                term = Math.multiplyExact(term, rows[rowPlaces[i]][columnPlaces[permutation[i]]]);
            }
            sum = Math.addExact(sum, term);
        }
        return sum;
    }

    private static long sign(int[] permutation) {
        long sign = 1;
        for (int i = 0; i < permutation.length; i++) {
            for (int j = 0; j < i; j++) {
                if (permutation[j] > permutation[i]) {
                    sign = -sign;
                }
            }
        }
        return sign;
    }

    private static int[][] permutations(int size) {
        if (size == 0) {
            return new int[][] {{}};
        }
        int[][] shorter = permutations(size - 1);
        int[][] all = new int[shorter.length * size][size];
        for (int i = 0; i < all.length; i++) {
            int place = i % size;
            int[] from = shorter[i / size];
            for (int j = 0; j < size; j++) {
                all[i][j] = j < place ? from[j] : j == place ? size - 1 : from[j - 1];
            }
        }
        return all;
    }

    private static long gcd(long a, long b) {
        return b == 0 ? a : gcd(b, a % b);
    }
}

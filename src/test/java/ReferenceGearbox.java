import java.math.BigInteger;
import java.util.ArrayDeque;
import java.util.ArrayList;
import java.util.Arrays;
import java.util.Comparator;
import java.util.List;
import java.util.Queue;

/**
 * The document once more, written slowly and in another way: fractions of BigIntegers, and an
 * unknown is determined if its unit vector is a combination of the rows of the matrix.
 * Arguments are taken as good; an answer that does not exist is null.
 */
final class ReferenceGearbox {
    static final int SHAFTS = 6;

    record Fraction(BigInteger numerator, BigInteger denominator) implements Comparable<Fraction> {
        static final Fraction ZERO = of(0);

        static Fraction of(long value) {
            return new Fraction(BigInteger.valueOf(value), BigInteger.ONE);
        }

        static Fraction lowest(BigInteger numerator, BigInteger denominator) {
            BigInteger divisor = numerator.gcd(denominator);
            if (denominator.signum() < 0) {
                divisor = divisor.negate();
            }
            return new Fraction(numerator.divide(divisor), denominator.divide(divisor));
        }

        Fraction plus(Fraction other) {
            return lowest(numerator.multiply(other.denominator)
                    .add(other.numerator.multiply(denominator)), denominator.multiply(other.denominator));
        }

        Fraction times(Fraction other) {
            return lowest(numerator.multiply(other.numerator), denominator.multiply(other.denominator));
        }

        Fraction inverse() {
            return lowest(denominator, numerator);
        }

        Fraction negative() {
            return new Fraction(numerator.negate(), denominator);
        }

        boolean isZero() {
            return numerator.signum() == 0;
        }

        long part(int part) {
            return (part == 0 ? numerator : denominator).longValueExact();
        }

        float asFloat() {
            return (float) part(0) / (float) part(1);
        }

        @Override
        public int compareTo(Fraction other) {
            return numerator.multiply(other.denominator).compareTo(other.numerator.multiply(denominator));
        }
    }

    record GearSet(int sun, int ring, int carrier, int sunTeeth, int ringTeeth) {
    }

    /** A brake has the second shaft -1. */
    record Element(int first, int second, int capacity) {
    }

    record Saved(List<GearSet> sets, List<Element> elements, int engaged) {
    }

    record Gear(int mask, Fraction ratio) {
    }

    List<GearSet> sets = new ArrayList<>();
    List<Element> elements = new ArrayList<>();
    int engaged = 0;
    final List<Integer> before = new ArrayList<>();
    final Saved[] slots = new Saved[2];

    void change(int mask) {
        if (mask != engaged) {
            before.add(engaged);
            if (before.size() > 20) {
                before.remove(0);
            }
            engaged = mask;
        }
    }

    boolean undo() {
        if (before.isEmpty()) {
            return false;
        }
        engaged = before.remove(before.size() - 1);
        return true;
    }

    void save(int slot) {
        slots[slot] = new Saved(List.copyOf(sets), List.copyOf(elements), engaged);
    }

    void restore(int slot) {
        sets = new ArrayList<>(slots[slot].sets());
        elements = new ArrayList<>(slots[slot].elements());
        engaged = slots[slot].engaged();
        before.clear();
    }

    boolean brakesOnly() {
        for (int e = 0; e < elements.size(); e++) {
            if ((engaged & 1 << e) != 0 && elements.get(e).second() >= 0) {
                return false;
            }
        }
        return true;
    }

    int state(int mask) {
        Fraction[][] matrix = speedMatrix(mask);
        if (!hasSolution(matrix)) {
            return 3;
        }
        Fraction output = value(matrix, 1);
        return output == null ? 2 : output.isZero() ? 1 : 0;
    }

    Fraction speed(int shaft) {
        return value(speedMatrix(engaged), shaft);
    }

    Fraction ratio(int mask) {
        return state(mask) == 0 ? value(speedMatrix(mask), 1).inverse() : null;
    }

    Fraction outputTorque() {
        return value(torqueMatrix(), 0);
    }

    Fraction torque(int element) {
        return (engaged & 1 << element) == 0 ? null : value(torqueMatrix(), 4 + element);
    }

    int slipping(int inputTorque) {
        int mask = 0;
        for (int e = 0; e < elements.size(); e++) {
            Fraction torque = torque(e);
            if (torque != null) {
                Fraction acting = torque.times(Fraction.of(inputTorque));
                Fraction capacity = Fraction.of(elements.get(e).capacity());
                if (acting.compareTo(capacity) > 0 || acting.negative().compareTo(capacity) > 0) {
                    mask |= 1 << e;
                }
            }
        }
        return mask;
    }

    /** The greatest torque by halving: an element that slips also slips with more torque. */
    int greatestTorque() {
        int holds = 0;
        int slips = 10001;
        while (slips - holds > 1) {
            int middle = (holds + slips) / 2;
            if (slipping(middle) == 0) {
                holds = middle;
            } else {
                slips = middle;
            }
        }
        return holds;
    }

    List<Gear> gears() {
        List<Gear> found = new ArrayList<>();
        int[] states = new int[1 << elements.size()];
        for (int mask = 0; mask < states.length; mask++) {
            states[mask] = state(mask);
        }
        for (int mask = 0; mask < states.length; mask++) {
            boolean gear = states[mask] == 0;
            for (int smaller = 0; smaller < mask; smaller++) {
                gear &= (smaller & ~mask) != 0 || states[smaller] == 2;
            }
            if (gear) {
                found.add(new Gear(mask, ratio(mask)));
            }
        }
        found.sort(Comparator.comparing(Gear::ratio).thenComparing(Gear::mask));
        return found;
    }

    /** The first way found in breadth, by ascending numbers, is the smallest of the shortest. */
    static int[] way(List<Gear> gears, int from, int to) {
        Queue<int[]> open = new ArrayDeque<>();
        boolean[] reached = new boolean[gears.size()];
        reached[from] = true;
        open.add(new int[] {from});
        while (!open.isEmpty()) {
            int[] way = open.remove();
            int last = way[way.length - 1];
            if (last == to) {
                return way;
            }
            for (int next = 0; next < gears.size(); next++) {
                int first = gears.get(last).mask();
                int second = gears.get(next).mask();
                boolean neighbour = Integer.bitCount(first) == Integer.bitCount(second)
                        && Integer.bitCount(first ^ second) == 2;
                if (neighbour && !reached[next]) {
                    reached[next] = true;
                    int[] longer = Arrays.copyOf(way, way.length + 1);
                    longer[way.length] = next;
                    open.add(longer);
                }
            }
        }
        return null;
    }

    private Fraction[][] speedMatrix(int mask) {
        List<Fraction[]> rows = new ArrayList<>();
        rows.add(row(7, 0, 1, 6, 1));
        for (GearSet set : sets) {
            rows.add(row(7, set.sun(), set.sunTeeth(), set.ring(), set.ringTeeth(),
                    set.carrier(), -set.sunTeeth() - set.ringTeeth()));
        }
        for (int e = 0; e < elements.size(); e++) {
            if ((mask & 1 << e) != 0) {
                Element element = elements.get(e);
                rows.add(element.second() < 0 ? row(7, element.first(), 1)
                        : row(7, element.first(), 1, element.second(), -1));
            }
        }
        return rows.toArray(new Fraction[0][]);
    }

    /** Unknowns: 0 the output, 1 to 3 the sets, 4 to 9 the elements; column 10 is constant. */
    private Fraction[][] torqueMatrix() {
        Fraction[][] matrix = new Fraction[SHAFTS][];
        for (int shaft = 0; shaft < SHAFTS; shaft++) {
            matrix[shaft] = row(11);
        }
        matrix[0][10] = Fraction.of(-1);
        matrix[1][0] = Fraction.of(1);
        for (int s = 0; s < sets.size(); s++) {
            GearSet set = sets.get(s);
            matrix[set.sun()][1 + s] = Fraction.of(set.sunTeeth());
            matrix[set.ring()][1 + s] = Fraction.of(set.ringTeeth());
            matrix[set.carrier()][1 + s] = Fraction.of(-set.sunTeeth() - set.ringTeeth());
        }
        for (int e = 0; e < elements.size(); e++) {
            if ((engaged & 1 << e) != 0) {
                matrix[elements.get(e).first()][4 + e] = Fraction.of(1);
                if (elements.get(e).second() >= 0) {
                    matrix[elements.get(e).second()][4 + e] = Fraction.of(-1);
                }
            }
        }
        return matrix;
    }

    private static Fraction[] row(int columns, int... placesAndValues) {
        Fraction[] row = new Fraction[columns];
        Arrays.fill(row, Fraction.ZERO);
        for (int i = 0; i < placesAndValues.length; i += 2) {
            row[placesAndValues[i]] = Fraction.of(placesAndValues[i + 1]);
        }
        return row;
    }

    /** No combination of the rows says 0 = 1. */
    private static boolean hasSolution(Fraction[][] matrix) {
        return combination(matrix, matrix[0].length - 1, true) == null;
    }

    private static Fraction value(Fraction[][] matrix, int unknown) {
        if (!hasSolution(matrix)) {
            return null;
        }
        Fraction[] factors = combination(matrix, unknown, false);
        if (factors == null) {
            return null;
        }
        Fraction sum = Fraction.ZERO;
        for (int row = 0; row < matrix.length; row++) {
            sum = sum.plus(factors[row].times(matrix[row][matrix[row].length - 1]));
        }
        return sum;
    }

    /** Factors with which the rows add up to a unit vector, with or without the constants. */
    private static Fraction[] combination(Fraction[][] matrix, int unit, boolean withConstants) {
        int equations = matrix[0].length - (withConstants ? 0 : 1);
        int unknowns = matrix.length;
        Fraction[][] work = new Fraction[equations][unknowns + 1];
        for (int i = 0; i < equations; i++) {
            for (int j = 0; j < unknowns; j++) {
                work[i][j] = matrix[j][i];
            }
            work[i][unknowns] = Fraction.of(i == unit ? 1 : 0);
        }
        return anySolution(work, unknowns);
    }

    private static Fraction[] anySolution(Fraction[][] work, int unknowns) {
        int[] pivots = new int[unknowns];
        Arrays.fill(pivots, -1);
        int rank = 0;
        for (int column = 0; column < unknowns; column++) {
            int found = rank;
            while (found < work.length && work[found][column].isZero()) {
                found++;
            }
            if (found < work.length) {
                Fraction[] swapped = work[found];
                work[found] = work[rank];
                work[rank] = swapped;
                sweep(work, rank, column);
                pivots[column] = rank++;
            }
        }
        for (int row = rank; row < work.length; row++) {
            if (!work[row][unknowns].isZero()) {
                return null;
            }
        }
        Fraction[] solution = new Fraction[unknowns];
        for (int column = 0; column < unknowns; column++) {
            solution[column] = pivots[column] < 0 ? Fraction.ZERO : work[pivots[column]][unknowns];
        }
        return solution;
    }

    private static void sweep(Fraction[][] work, int pivot, int column) {
        Fraction inverse = work[pivot][column].inverse();
        for (int j = 0; j < work[pivot].length; j++) {
            work[pivot][j] = work[pivot][j].times(inverse);
        }
        for (int row = 0; row < work.length; row++) {
            if (row != pivot && !work[row][column].isZero()) {
                Fraction factor = work[row][column].negative();
                for (int j = 0; j < work[row].length; j++) {
                    work[row][j] = work[row][j].plus(work[pivot][j].times(factor));
                }
            }
        }
    }
}

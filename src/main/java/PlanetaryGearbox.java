/**
 * An analyser for planetary gearboxes: exact speeds and torques, gears, shift sequences and
 * elements that slip. All rows are made with the object and used again by every call.
 */
public final class PlanetaryGearbox {
    public static final int NONE = -1;
    public static final int DRIVING = 0, STOPPED = 1, NEUTRAL = 2, BLOCKED = 3;

    private static final int SHAFTS = 6;
    private static final int INPUT = 0;
    private static final int OUTPUT = 1;
    private static final int MAX_SETS = 3;
    private static final int MAX_ELEMENTS = 6;
    private static final int MASKS = 1 << MAX_ELEMENTS;
    private static final int MIN_SUN_TEETH = 10;
    private static final int MAX_SUN_TEETH = 40;
    private static final int MAX_RING_TEETH = 100;
    private static final int FIRST_CAPACITY = 1000;
    private static final int MAX_CAPACITY = 10000;
    private static final int MAX_INPUT_TORQUE = 10000;
    private static final int MAX_UNDO = 20;
    private static final int NUMERATOR = 0;
    private static final int DENOMINATOR = 1;

    private final Design design = new Design();
    private final Design firstSlot = new Design();
    private final Design secondSlot = new Design();
    private boolean firstSlotUsed;
    private boolean secondSlotUsed;
    private final History history = new History();
    private final Speeds speeds = new Speeds();
    private final Torques torques = new Torques();
    private final GearTable gears = new GearTable();

    public PlanetaryGearbox() {
    }

    // ---- construction

    public int addSet(int sun, int ring, int carrier, int sunTeeth, int ringTeeth)
            throws IndexOutOfBoundsException, IllegalArgumentException, IllegalStateException {
        if (!isShaft(sun) || !isShaft(ring) || !isShaft(carrier)) {
            throw new IndexOutOfBoundsException("a shaft is not 0 to 5");
        }
        if (sun == ring || sun == carrier || ring == carrier) {
            throw new IllegalArgumentException("two of the shafts are the same");
        }
        if (sunTeeth < MIN_SUN_TEETH || sunTeeth > MAX_SUN_TEETH) {
            throw new IllegalArgumentException("the number of teeth of the sun is out of range");
        }
        if (ringTeeth <= sunTeeth || ringTeeth > MAX_RING_TEETH) {
            throw new IllegalArgumentException("the number of teeth of the ring is out of range");
        }
        if (design.setCount() >= MAX_SETS) {
            throw new IllegalStateException("there are 3 gear sets");
        }
        gears.forget();
        design.appendSet(sun, ring, carrier, sunTeeth, ringTeeth);
        return design.setCount();
    }

    public int addBrake(int shaft) throws IndexOutOfBoundsException, IllegalStateException {
        if (!isShaft(shaft)) {
            throw new IndexOutOfBoundsException("the shaft is not 0 to 5");
        }
        if (design.elementCount() >= MAX_ELEMENTS) {
            throw new IllegalStateException("there are 6 elements");
        }
        gears.forget();
        return design.appendElement(shaft, NONE);
    }

    public int addClutch(int first, int second)
            throws IndexOutOfBoundsException, IllegalArgumentException, IllegalStateException {
        if (!isShaft(first) || !isShaft(second)) {
            throw new IndexOutOfBoundsException("a shaft is not 0 to 5");
        }
        if (first == second) {
            throw new IllegalArgumentException("both shafts are the same");
        }
        if (design.elementCount() >= MAX_ELEMENTS) {
            throw new IllegalStateException("there are 6 elements");
        }
        gears.forget();
        return design.appendElement(first, second);
    }

    public int setCapacity(int element, int capacity)
            throws IndexOutOfBoundsException, IllegalArgumentException {
        if (!design.hasElement(element)) {
            throw new IndexOutOfBoundsException("there is no such element");
        }
        if (capacity < 1 || capacity > MAX_CAPACITY) {
            throw new IllegalArgumentException("the capacity is out of range");
        }
        int previous = design.capacityOf(element);
        design.changeCapacity(element, capacity);
        return previous;
    }

    public int count(int what) throws IllegalArgumentException {
        if (what < 0 || what > 2) {
            throw new IllegalArgumentException("what is not 0 to 2");
        }
        if (what == 0) {
            return design.setCount();
        }
        if (what == 1) {
            return design.elementCount();
        }
        gears.refresh(design, speeds);
        return gears.size();
    }

    // ---- elements

    public boolean engage(int element) throws IndexOutOfBoundsException {
        if (!design.hasElement(element)) {
            throw new IndexOutOfBoundsException("there is no such element");
        }
        return changeEngaged(design.engagedMask() | (1 << element));
    }

    public boolean release(int element) throws IndexOutOfBoundsException {
        if (!design.hasElement(element)) {
            throw new IndexOutOfBoundsException("there is no such element");
        }
        return changeEngaged(design.engagedMask() & ~(1 << element));
    }

    public int select(int mask) throws IllegalArgumentException {
        if (!design.hasElements(mask)) {
            throw new IllegalArgumentException("the mask is negative or has an element too many");
        }
        int previous = design.engagedMask();
        changeEngaged(mask);
        return previous;
    }

    public boolean undo() {
        if (history.isEmpty()) {
            return false;
        }
        design.changeEngagedMask(history.takeLatest());
        return true;
    }

    public int engaged() {
        return design.engagedMask();
    }

    public boolean brakesOnly() {
        for (int element = 0; element < MAX_ELEMENTS; element++) {
            if (design.isEngaged(element) && design.isClutch(element)) {
                return false;
            }
        }
        return true;
    }

    // ---- speeds and torques

    public int state() {
        speeds.solve(design, design.engagedMask());
        return speeds.stateFound();
    }

    public long speed(int shaft, int part)
            throws IndexOutOfBoundsException, IllegalArgumentException, IllegalStateException {
        if (!isShaft(shaft)) {
            throw new IndexOutOfBoundsException("the shaft is not 0 to 5");
        }
        if (!isPart(part)) {
            throw new IllegalArgumentException("part is neither 0 nor 1");
        }
        speeds.solve(design, design.engagedMask());
        if (!speeds.isDetermined(shaft)) {
            throw new IllegalStateException("the gearbox is blocked or the speed not determined");
        }
        return speeds.speedPart(shaft, part);
    }

    public long ratio(int part) throws IllegalArgumentException, IllegalStateException {
        if (!isPart(part)) {
            throw new IllegalArgumentException("part is neither 0 nor 1");
        }
        speeds.solve(design, design.engagedMask());
        if (speeds.stateFound() != DRIVING) {
            throw new IllegalStateException("the gearbox is not driving");
        }
        return speeds.ratioPart(part);
    }

    public float ratioAsFloat() throws IllegalStateException {
        speeds.solve(design, design.engagedMask());
        if (speeds.stateFound() != DRIVING) {
            throw new IllegalStateException("the gearbox is not driving");
        }
        return floatQuotient(speeds.ratioPart(NUMERATOR), speeds.ratioPart(DENOMINATOR));
    }

    public long outputTorque(int part) throws IllegalArgumentException, IllegalStateException {
        if (!isPart(part)) {
            throw new IllegalArgumentException("part is neither 0 nor 1");
        }
        torques.solve(design, design.engagedMask());
        if (!torques.isOutputDetermined()) {
            throw new IllegalStateException("the torque is not determined");
        }
        return torques.outputPart(part);
    }

    public long torque(int element, int part)
            throws IndexOutOfBoundsException, IllegalArgumentException, IllegalStateException {
        if (!design.hasElement(element)) {
            throw new IndexOutOfBoundsException("there is no such element");
        }
        if (!isPart(part)) {
            throw new IllegalArgumentException("part is neither 0 nor 1");
        }
        if (!design.isEngaged(element)) {
            throw new IllegalStateException("the element is not engaged");
        }
        torques.solve(design, design.engagedMask());
        if (!torques.isDetermined(element)) {
            throw new IllegalStateException("the torque is not determined");
        }
        return torques.elementPart(element, part);
    }

    public int slipping(int inputTorque) throws IllegalArgumentException {
        if (inputTorque < 1 || inputTorque > MAX_INPUT_TORQUE) {
            throw new IllegalArgumentException("the input torque is out of range");
        }
        torques.solve(design, design.engagedMask());
        int mask = 0;
        for (int element = 0; element < MAX_ELEMENTS; element++) {
            if (design.isEngaged(element)
                    && torques.holdsUpTo(element, design.capacityOf(element)) < inputTorque) {
                mask |= 1 << element;
            }
        }
        return mask;
    }

    public int greatestTorque() throws IllegalStateException {
        speeds.solve(design, design.engagedMask());
        if (speeds.stateFound() != DRIVING) {
            throw new IllegalStateException("the gearbox is not driving");
        }
        torques.solve(design, design.engagedMask());
        int greatest = MAX_INPUT_TORQUE;
        for (int element = 0; element < MAX_ELEMENTS; element++) {
            if (design.isEngaged(element)) {
                greatest = Math.min(greatest,
                        torques.holdsUpTo(element, design.capacityOf(element)));
            }
        }
        return greatest;
    }

    // ---- gears and shifts

    public int gear(int index) throws IndexOutOfBoundsException {
        gears.refresh(design, speeds);
        if (!gears.hasGear(index)) {
            throw new IndexOutOfBoundsException("there is no such gear");
        }
        return gears.maskOf(index);
    }

    public int indexOf(int mask) throws IllegalArgumentException {
        if (!design.hasElements(mask)) {
            throw new IllegalArgumentException("the mask is negative or has an element too many");
        }
        gears.refresh(design, speeds);
        return gears.find(mask);
    }

    public long gearRatio(int index, int part)
            throws IndexOutOfBoundsException, IllegalArgumentException {
        gears.refresh(design, speeds);
        if (!gears.hasGear(index)) {
            throw new IndexOutOfBoundsException("there is no such gear");
        }
        if (!isPart(part)) {
            throw new IllegalArgumentException("part is neither 0 nor 1");
        }
        return gears.ratioPart(index, part);
    }

    public float step(int index) throws IndexOutOfBoundsException {
        gears.refresh(design, speeds);
        // The first test keeps index + 1 from wrapping round.
        if (!gears.hasGear(index) || !gears.hasGear(index + 1)) {
            throw new IndexOutOfBoundsException("one of both gears does not exist");
        }
        float divisor = ratioOfGear(index);
        return divisor == 0 ? 0 : ratioOfGear(index + 1) / divisor;
    }

    public int fewestShifts(int from, int to) throws IndexOutOfBoundsException {
        gears.refresh(design, speeds);
        if (!gears.hasGear(from) || !gears.hasGear(to)) {
            throw new IndexOutOfBoundsException("one of the gears does not exist");
        }
        gears.measure(to);
        return gears.shiftsLeft(from);
    }

    public int shift(int from, int to, int index) throws IndexOutOfBoundsException {
        gears.refresh(design, speeds);
        if (!gears.hasGear(from) || !gears.hasGear(to)) {
            throw new IndexOutOfBoundsException("one of the gears does not exist");
        }
        gears.measure(to);
        return gears.onTheWay(from, index);
    }

    // ---- saving

    public void save(int slot) throws IllegalArgumentException {
        if (slot != 0 && slot != 1) {
            throw new IllegalArgumentException("the slot does not exist");
        }
        if (slot == 0) {
            firstSlot.copyFrom(design);
            firstSlotUsed = true;
        } else {
            secondSlot.copyFrom(design);
            secondSlotUsed = true;
        }
    }

    public void restore(int slot) throws IllegalArgumentException, IllegalStateException {
        if (slot != 0 && slot != 1) {
            throw new IllegalArgumentException("the slot does not exist");
        }
        if (slot == 0 ? !firstSlotUsed : !secondSlotUsed) {
            throw new IllegalStateException("nothing was saved in the slot");
        }
        design.copyFrom(slot == 0 ? firstSlot : secondSlot);
        history.clear();
        gears.forget();
    }

    // ---- helpers

    private static boolean isShaft(int number) {
        return number >= 0 && number < SHAFTS;
    }

    private static boolean isPart(int part) {
        return part == NUMERATOR || part == DENOMINATOR;
    }

    private static float floatQuotient(long numerator, long denominator) {
        return denominator == 0 ? 0 : (float) numerator / (float) denominator;
    }

    private float ratioOfGear(int index) {
        return floatQuotient(gears.ratioPart(index, NUMERATOR),
                gears.ratioPart(index, DENOMINATOR));
    }

    private boolean changeEngaged(int mask) {
        int previous = design.engagedMask();
        if (mask == previous) {
            return false;
        }
        history.add(previous);
        design.changeEngagedMask(mask);
        return true;
    }

    /** The gear sets, the elements with their capacities, and which of them are engaged. */
    private static final class Design {
        private final int[] sun = new int[MAX_SETS];
        private final int[] ring = new int[MAX_SETS];
        private final int[] carrier = new int[MAX_SETS];
        private final int[] sunTeeth = new int[MAX_SETS];
        private final int[] ringTeeth = new int[MAX_SETS];
        private int sets;
        private final int[] firstShaft = new int[MAX_ELEMENTS];
        /** NONE for a brake. */
        private final int[] secondShaft = new int[MAX_ELEMENTS];
        private final int[] capacities = new int[MAX_ELEMENTS];
        private int elements;
        private int engagedElements;

        int setCount() {
            return sets;
        }

        int elementCount() {
            return elements;
        }

        boolean hasElement(int element) {
            return element >= 0 && element < elements && element < MAX_ELEMENTS;
        }

        /** Tells whether a mask holds no other elements than those of this design. */
        boolean hasElements(int mask) {
            return mask >= 0 && (mask >> elements) == 0;
        }

        void appendSet(int sunShaft, int ringShaft, int carrierShaft, int ofSun, int ofRing) {
            if (sets < 0 || sets >= MAX_SETS) {
                return;
            }
            sun[sets] = sunShaft;
            ring[sets] = ringShaft;
            carrier[sets] = carrierShaft;
            sunTeeth[sets] = ofSun;
            ringTeeth[sets] = ofRing;
            sets++;
        }

        /** Appends a brake if the second shaft is NONE, a clutch otherwise. */
        int appendElement(int first, int second) {
            if (elements < 0 || elements >= MAX_ELEMENTS) {
                return NONE;
            }
            firstShaft[elements] = first;
            secondShaft[elements] = second;
            capacities[elements] = FIRST_CAPACITY;
            elements++;
            return elements - 1;
        }

        int capacityOf(int element) {
            return hasElement(element) ? capacities[element] : 0;
        }

        void changeCapacity(int element, int capacity) {
            if (hasElement(element)) {
                capacities[element] = capacity;
            }
        }

        boolean isClutch(int element) {
            return hasElement(element) && secondShaft[element] != NONE;
        }

        boolean isEngaged(int element) {
            return hasElement(element) && isIn(element, engagedElements);
        }

        int engagedMask() {
            return engagedElements;
        }

        void changeEngagedMask(int mask) {
            engagedElements = mask;
        }

        void copyFrom(Design other) {
            for (int set = 0; set < MAX_SETS; set++) {
                sun[set] = other.sun[set];
                ring[set] = other.ring[set];
                carrier[set] = other.carrier[set];
                sunTeeth[set] = other.sunTeeth[set];
                ringTeeth[set] = other.ringTeeth[set];
            }
            for (int element = 0; element < MAX_ELEMENTS; element++) {
                firstShaft[element] = other.firstShaft[element];
                secondShaft[element] = other.secondShaft[element];
                capacities[element] = other.capacities[element];
            }
            sets = other.sets;
            elements = other.elements;
            engagedElements = other.engagedElements;
        }

        /** Writes an equation for each gear set; the unknowns are the speeds of the shafts. */
        void writeSetSpeeds(Equations equations, int firstRow) {
            for (int set = 0; set < sets && set < MAX_SETS; set++) {
                int row = firstRow + set;
                equations.add(row, sun[set], sunTeeth[set]);
                equations.add(row, ring[set], ringTeeth[set]);
                equations.add(row, carrier[set], -(sunTeeth[set] + ringTeeth[set]));
            }
        }

        /** Writes an equation for each element of a mask; the unknowns are the speeds. */
        void writeElementSpeeds(Equations equations, int firstRow, int mask) {
            for (int element = 0; element < elements && element < MAX_ELEMENTS; element++) {
                if (isIn(element, mask)) {
                    equations.add(firstRow + element, firstShaft[element], 1);
                    if (secondShaft[element] != NONE) {
                        equations.add(firstRow + element, secondShaft[element], -1);
                    }
                }
            }
        }

        /** Adds the torques of the gear sets to the sums of the shafts, which are the rows. */
        void writeSetTorques(Equations equations, int firstUnknown) {
            for (int set = 0; set < sets && set < MAX_SETS; set++) {
                int unknown = firstUnknown + set;
                equations.add(sun[set], unknown, sunTeeth[set]);
                equations.add(ring[set], unknown, ringTeeth[set]);
                equations.add(carrier[set], unknown, -(sunTeeth[set] + ringTeeth[set]));
            }
        }

        /** Adds the torques of the elements of a mask to the sums of the shafts. */
        void writeElementTorques(Equations equations, int firstUnknown, int mask) {
            for (int element = 0; element < elements && element < MAX_ELEMENTS; element++) {
                if (isIn(element, mask)) {
                    equations.add(firstShaft[element], firstUnknown + element, 1);
                    if (secondShaft[element] != NONE) {
                        equations.add(secondShaft[element], firstUnknown + element, -1);
                    }
                }
            }
        }

        private static boolean isIn(int element, int mask) {
            return ((mask >> element) & 1) == 1;
        }
    }

    /** The masks that were engaged before the latest changes. */
    private static final class History {
        private final int[] masks = new int[MAX_UNDO];
        private int size;

        boolean isEmpty() {
            return size <= 0;
        }

        void clear() {
            size = 0;
        }

        void add(int mask) {
            if (size >= MAX_UNDO) {
                for (int i = 1; i < MAX_UNDO; i++) {
                    masks[i - 1] = masks[i];
                }
                size = MAX_UNDO - 1;
            }
            if (size >= 0) {
                masks[size] = mask;
                size++;
            }
        }

        int takeLatest() {
            if (size <= 0 || size > MAX_UNDO) {
                return 0;
            }
            size--;
            return masks[size];
        }
    }

    /**
     * Linear equations with whole numbers. A row is kept free of common factors: then its numbers
     * are at most minors of the first matrix, less than 2^25 for any gearbox, and no product of
     * two of them leaves the longs.
     */
    private static final class Equations {
        private static final int ROWS = 1 + MAX_SETS + MAX_ELEMENTS;
        private static final int UNKNOWNS = 1 + MAX_SETS + MAX_ELEMENTS;
        /** The column of the right sides. */
        private static final int CONSTANT = UNKNOWNS;
        private static final int COLUMNS = UNKNOWNS + 1;
        /** Euclid's algorithm takes at most 91 steps for two longs. */
        private static final int MAX_EUCLID_STEPS = 100;

        private final long[][] cells = new long[ROWS][COLUMNS];
        private final int[] pivotRow = new int[UNKNOWNS];
        private final boolean[] isPivotRow = new boolean[ROWS];
        private boolean solvable;

        void clear() {
            for (int row = 0; row < ROWS; row++) {
                for (int column = 0; column < COLUMNS; column++) {
                    cells[row][column] = 0;
                }
            }
        }

        void add(int row, int column, long value) {
            if (row >= 0 && row < ROWS && column >= 0 && column < COLUMNS) {
                cells[row][column] += value;
            }
        }

        /** Leaves each unknown that has a pivot in the row of its pivot alone. */
        void reduce() {
            for (int row = 0; row < ROWS; row++) {
                isPivotRow[row] = false;
            }
            for (int unknown = 0; unknown < UNKNOWNS; unknown++) {
                int pivot = freeRowWith(unknown);
                pivotRow[unknown] = pivot;
                if (pivot >= 0 && pivot < ROWS) {
                    isPivotRow[pivot] = true;
                    for (int row = 0; row < ROWS; row++) {
                        if (row != pivot && cells[row][unknown] != 0) {
                            eliminate(row, pivot, unknown);
                        }
                    }
                }
            }
            solvable = areRowsLeftEmpty();
        }

        /** Tells whether an unknown has the same value in all solutions, and there is one. */
        boolean isDetermined(int unknown) {
            if (!solvable || unknown < 0 || unknown >= UNKNOWNS) {
                return false;
            }
            int row = pivotRow[unknown];
            if (row < 0 || row >= ROWS) {
                return false;
            }
            for (int other = 0; other < UNKNOWNS; other++) {
                if (other != unknown && cells[row][other] != 0) {
                    return false;
                }
            }
            return true;
        }

        boolean isSolvable() {
            return solvable;
        }

        /** A part of the value of an unknown that is determined, in lowest terms. */
        long valuePart(int unknown, int part) {
            if (unknown < 0 || unknown >= UNKNOWNS) {
                return 0;
            }
            int row = pivotRow[unknown];
            if (row < 0 || row >= ROWS) {
                return 0;
            }
            long pivot = cells[row][unknown];
            long constant = cells[row][CONSTANT];
            long divisor = commonFactor(pivot, constant);
            if (divisor == 0) {
                return 0;
            }
            long quotient = (part == NUMERATOR ? constant : pivot) / divisor;
            return pivot < 0 ? -quotient : quotient;
        }

        private int freeRowWith(int unknown) {
            for (int row = 0; row < ROWS; row++) {
                if (!isPivotRow[row] && cells[row][unknown] != 0) {
                    return row;
                }
            }
            return NONE;
        }

        private void eliminate(int row, int pivot, int unknown) {
            long ofRow = cells[row][unknown];
            long ofPivot = cells[pivot][unknown];
            long factor = 0;
            for (int column = 0; column < COLUMNS; column++) {
                cells[row][column] = cells[row][column] * ofPivot - cells[pivot][column] * ofRow;
                factor = commonFactor(factor, cells[row][column]);
            }
            if (factor > 1) {
                for (int column = 0; column < COLUMNS; column++) {
                    cells[row][column] /= factor;
                }
            }
        }

        private boolean areRowsLeftEmpty() {
            for (int row = 0; row < ROWS; row++) {
                if (!isPivotRow[row] && cells[row][CONSTANT] != 0) {
                    return false;
                }
            }
            return true;
        }

        private static long commonFactor(long first, long second) {
            long larger = first < 0 ? -first : first;
            long smaller = second < 0 ? -second : second;
            for (int i = 0; i < MAX_EUCLID_STEPS && smaller != 0; i++) {
                long rest = larger % smaller;
                larger = smaller;
                smaller = rest;
            }
            return larger;
        }
    }

    /** The speeds of the shafts with the elements of a mask engaged. */
    private static final class Speeds {
        private static final int INPUT_ROW = 0;
        private static final int FIRST_SET_ROW = 1;
        private static final int FIRST_ELEMENT_ROW = FIRST_SET_ROW + MAX_SETS;

        private final Equations equations = new Equations();

        void solve(Design design, int mask) {
            equations.clear();
            equations.add(INPUT_ROW, INPUT, 1);
            equations.add(INPUT_ROW, Equations.CONSTANT, 1);
            design.writeSetSpeeds(equations, FIRST_SET_ROW);
            design.writeElementSpeeds(equations, FIRST_ELEMENT_ROW, mask);
            equations.reduce();
        }

        int stateFound() {
            if (!equations.isSolvable()) {
                return BLOCKED;
            }
            if (!equations.isDetermined(OUTPUT)) {
                return NEUTRAL;
            }
            return equations.valuePart(OUTPUT, NUMERATOR) == 0 ? STOPPED : DRIVING;
        }

        boolean isDetermined(int shaft) {
            return equations.isDetermined(shaft);
        }

        long speedPart(int shaft, int part) {
            return equations.valuePart(shaft, part);
        }

        /** A part of 1 / speed of the output; the sign moves to the numerator. */
        long ratioPart(int part) {
            long numerator = equations.valuePart(OUTPUT, NUMERATOR);
            long denominator = equations.valuePart(OUTPUT, DENOMINATOR);
            if (part == DENOMINATOR) {
                return numerator < 0 ? -numerator : numerator;
            }
            return numerator < 0 ? -denominator : denominator;
        }
    }

    /** The unknown torques, for a torque of 1 on the input, with the elements of a mask engaged. */
    private static final class Torques {
        private static final int OUTPUT_UNKNOWN = 0;
        private static final int FIRST_SET_UNKNOWN = 1;
        private static final int FIRST_ELEMENT_UNKNOWN = FIRST_SET_UNKNOWN + MAX_SETS;

        private final Equations equations = new Equations();

        void solve(Design design, int mask) {
            equations.clear();
            equations.add(INPUT, Equations.CONSTANT, -1);
            equations.add(OUTPUT, OUTPUT_UNKNOWN, 1);
            design.writeSetTorques(equations, FIRST_SET_UNKNOWN);
            design.writeElementTorques(equations, FIRST_ELEMENT_UNKNOWN, mask);
            equations.reduce();
        }

        boolean isOutputDetermined() {
            return equations.isDetermined(OUTPUT_UNKNOWN);
        }

        long outputPart(int part) {
            return equations.valuePart(OUTPUT_UNKNOWN, part);
        }

        boolean isDetermined(int element) {
            return equations.isDetermined(FIRST_ELEMENT_UNKNOWN + element);
        }

        long elementPart(int element, int part) {
            return equations.valuePart(FIRST_ELEMENT_UNKNOWN + element, part);
        }

        /** The greatest input torque, up to 10000, with which an engaged element does not slip. */
        int holdsUpTo(int element, int capacity) {
            if (!isDetermined(element)) {
                return MAX_INPUT_TORQUE;
            }
            long numerator = Math.abs(elementPart(element, NUMERATOR));
            if (numerator == 0) {
                return MAX_INPUT_TORQUE;
            }
            long held = capacity * elementPart(element, DENOMINATOR) / numerator;
            return (int) Math.min(held, MAX_INPUT_TORQUE);
        }
    }

    /** The gears in ascending order, and the shifts between them. */
    private static final class GearTable {
        private final int[] masks = new int[MASKS];
        private final long[] numerators = new long[MASKS];
        private final long[] denominators = new long[MASKS];
        /** Whether a mask and all its subsets are NEUTRAL. */
        private final boolean[] neutral = new boolean[MASKS];
        /** The fewest shifts from a gear to the one that was measured to, or NONE. */
        private final int[] distance = new int[MASKS];
        private int size;
        private boolean fresh;

        void forget() {
            fresh = false;
        }

        void refresh(Design design, Speeds speeds) {
            if (fresh) {
                return;
            }
            size = 0;
            for (int mask = 0; mask < MASKS; mask++) {
                neutral[mask] = false;
                if (design.hasElements(mask) && areSmallerNeutral(mask)) {
                    speeds.solve(design, mask);
                    int found = speeds.stateFound();
                    neutral[mask] = found == NEUTRAL;
                    if (found == DRIVING) {
                        insert(mask, speeds.ratioPart(NUMERATOR), speeds.ratioPart(DENOMINATOR));
                    }
                }
            }
            fresh = true;
        }

        int size() {
            return size;
        }

        boolean hasGear(int index) {
            return index >= 0 && index < size && index < MASKS;
        }

        int maskOf(int index) {
            return hasGear(index) ? masks[index] : NONE;
        }

        int find(int mask) {
            for (int index = 0; index < size && index < MASKS; index++) {
                if (masks[index] == mask) {
                    return index;
                }
            }
            return NONE;
        }

        long ratioPart(int index, int part) {
            if (!hasGear(index)) {
                return 0;
            }
            return part == NUMERATOR ? numerators[index] : denominators[index];
        }

        /** Finds the fewest shifts from every gear to the last one. */
        void measure(int last) {
            for (int index = 0; index < MASKS; index++) {
                distance[index] = index == last ? 0 : NONE;
            }
            for (int shifts = 1; shifts < size; shifts++) {
                for (int index = 0; index < size && index < MASKS; index++) {
                    if (distance[index] == NONE && neighbourAt(index, shifts - 1) != NONE) {
                        distance[index] = shifts;
                    }
                }
            }
        }

        int shiftsLeft(int from) {
            return hasGear(from) ? distance[from] : NONE;
        }

        /** Walks towards the gear measured to, by the smallest gear number in every shift. */
        int onTheWay(int from, int index) {
            int shifts = shiftsLeft(from);
            if (index < 0 || index > shifts) {
                return NONE;
            }
            int reached = from;
            for (int done = 0; done < index; done++) {
                reached = neighbourAt(reached, shifts - done - 1);
            }
            return reached;
        }

        private boolean areSmallerNeutral(int mask) {
            for (int element = 0; element < MAX_ELEMENTS; element++) {
                int smaller = mask & ~(1 << element);
                if (smaller != mask && smaller >= 0 && smaller < MASKS && !neutral[smaller]) {
                    return false;
                }
            }
            return true;
        }

        /** Puts a gear behind those of a ratio that is not greater: masks come ascending. */
        private void insert(int mask, long numerator, long denominator) {
            if (size < 0 || size >= MASKS) {
                return;
            }
            int place = size;
            for (int next = size - 1; next >= 0; next--) {
                if (numerators[next] * denominator <= numerator * denominators[next]) {
                    break;
                }
                masks[next + 1] = masks[next];
                numerators[next + 1] = numerators[next];
                denominators[next + 1] = denominators[next];
                place = next;
            }
            masks[place] = mask;
            numerators[place] = numerator;
            denominators[place] = denominator;
            size++;
        }

        /** The smallest neighbour of a gear that is a number of shifts from the last gear. */
        private int neighbourAt(int gear, int shifts) {
            if (!hasGear(gear)) {
                return NONE;
            }
            for (int index = 0; index < size && index < MASKS; index++) {
                if (distance[index] == shifts && areNeighbours(masks[gear], masks[index])) {
                    return index;
                }
            }
            return NONE;
        }

        private static boolean areNeighbours(int first, int second) {
            return Integer.bitCount(first & ~second) == 1 && Integer.bitCount(second & ~first) == 1;
        }
    }
}

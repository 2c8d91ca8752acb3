/** The boundaries that the section TORQUES and promises 17 to 20 name. */
public final class TorqueBoundaryTest {
    private static final int LEAST = Integer.MIN_VALUE;
    private static final int MOST = Integer.MAX_VALUE;
    private static final int[] WRONG_PARTS = {-1, 2, LEAST, MOST};

    public static void main(String[] args) {
        determinedIfThereIsASolution();
        determinedIfTheSameInAllSolutions();
        torqueOfAClutch();
        inputOfTwoClutches();
        promise17Part();
        promise17NotDetermined();
        promise17Order();
        promise18NoSuchElement();
        promise18Part();
        promise18NotEngaged();
        promise18NotDetermined();
        promise18Order();
        promise19GreaterThanTheCapacity();
        promise19AbsoluteValue();
        promise19Fraction();
        promise19TorqueOfZero();
        promise19NotEngaged();
        promise19NotDetermined();
        promise19InputTorque1To10000();
        promise19GreatNumbers();
        promise20From0();
        promise20To10000();
        promise20NoElementSlips();
        promise20NotDetermined();
        promise20GreatNumbers();
        promise20NotDriving();
        Check.finish();
    }

    private static PlanetaryGearbox neutral() {
        return Boxes.small(Boxes.SMALL_NEUTRAL);
    }

    private static PlanetaryGearbox driving() {
        return Boxes.small(Boxes.SMALL_DRIVING);
    }

    private static PlanetaryGearbox stopped() {
        return Boxes.small(Boxes.SMALL_STOPPED);
    }

    private static PlanetaryGearbox blocked() {
        return Boxes.small(Boxes.SMALL_BLOCKED);
    }

    /** Two brakes on the ring share its torque: only their sum is determined. */
    private static PlanetaryGearbox shared() {
        PlanetaryGearbox box = new PlanetaryGearbox();
        box.addSet(0, 2, 1, 20, 40);
        box.addBrake(2);
        box.addBrake(2);
        box.setCapacity(0, 1);
        box.setCapacity(1, 1);
        box.select(3);
        return box;
    }

    /** A brake on the ring with a torque of ring / sun; the capacity is the brake's. */
    private static PlanetaryGearbox braked(int sun, int ring, int capacity) {
        PlanetaryGearbox box = new PlanetaryGearbox();
        box.addSet(0, 2, 1, sun, ring);
        box.addBrake(2);
        box.setCapacity(0, capacity);
        box.engage(0);
        return box;
    }

    /** Two brakes with torques of 1421843/33263 and 11926/1147; a capacity of 10000 for both. */
    private static PlanetaryGearbox greatNumerators() {
        PlanetaryGearbox box = new PlanetaryGearbox();
        box.addSet(0, 3, 2, 37, 97);
        box.addSet(2, 4, 5, 31, 89);
        box.addSet(5, 3, 1, 29, 83);
        box.addBrake(3);
        box.addBrake(4);
        box.setCapacity(0, 10000);
        box.setCapacity(1, 10000);
        box.select(3);
        return box;
    }

    /** A brake and a clutch with torques of -29/507257 and 84/507257. */
    private static PlanetaryGearbox greatDenominators() {
        PlanetaryGearbox box = new PlanetaryGearbox();
        box.addSet(4, 0, 2, 35, 67);
        box.addSet(3, 5, 4, 29, 84);
        box.addSet(4, 1, 2, 23, 44);
        box.addBrake(3);
        box.addClutch(1, 5);
        box.select(3);
        return box;
    }

    /** TORQUES: "determined if there is a solution": none in neutral, none when stopped. */
    private static void determinedIfThereIsASolution() {
        Refusal.state("no solution: output", TorqueBoundaryTest::neutral, x -> x.outputTorque(0));
        Refusal.state("no solution: stopped", TorqueBoundaryTest::stopped, x -> x.outputTorque(0));
        Refusal.state("no solution: brake", TorqueBoundaryTest::stopped, x -> x.torque(2, 0));
        PlanetaryGearbox box = Boxes.empty();
        box.addBrake(5);
        box.engage(0);
        Check.state("no solution: a brake with nothing to hold", () -> box.torque(0, 0));
    }

    /** TORQUES: "and it is the same in all solutions": the output's is, those of the brakes not. */
    private static void determinedIfTheSameInAllSolutions() {
        Check.equal("many solutions: output", shared().outputTorque(0), -3);
        Refusal.state("many solutions: first brake", TorqueBoundaryTest::shared, x -> x.torque(0, 0));
        Refusal.state("many solutions: second brake", TorqueBoundaryTest::shared,
                x -> x.torque(1, 0));
        PlanetaryGearbox sets = Boxes.setsAlone(2);
        sets.addBrake(2);
        sets.engage(0);
        Check.equal("two sets alike: output", sets.outputTorque(0), -3);
        Check.equal("two sets alike: brake", sets.torque(0, 0), 2);
    }

    /** TORQUES: "which acts on its first shaft, and its negative acts on its second shaft". */
    private static void torqueOfAClutch() {
        PlanetaryGearbox box = Boxes.empty();
        box.addClutch(0, 5);
        box.addClutch(1, 5);
        box.select(3);
        Check.equal("input is the first shaft", box.torque(0, 0), -1);
        Check.equal("input is behind the second shaft", box.torque(1, 0), 1);
        Check.equal("output", box.outputTorque(0), -1);
    }

    /** TORQUES: "For each shaft, the sum of all torques [..] is 0": two clutches on the input. */
    private static void inputOfTwoClutches() {
        PlanetaryGearbox box = new PlanetaryGearbox();
        box.addSet(2, 1, 3, 20, 50);
        box.addClutch(0, 2);
        box.addClutch(0, 3);
        box.select(3);
        Check.equal("to the sun", box.torque(0, 0), 2);
        Check.equal("to the sun", box.torque(0, 1), 5);
        Check.equal("to the carrier", box.torque(1, 0), -7);
        Check.equal("to the carrier", box.torque(1, 1), 5);
        Check.equal("both to the output", box.outputTorque(0), -1);
        Check.equal("the carrier's slips first", box.slipping(1000), 2);
        Check.equal("the carrier's decides", box.greatestTorque(), 714);
    }

    /** Promise 17: "Throws IllegalArgumentException if part is neither 0 nor 1". */
    private static void promise17Part() {
        for (int wrong : WRONG_PARTS) {
            Refusal.argument("17 part " + wrong, TorqueBoundaryTest::driving,
                    x -> x.outputTorque(wrong));
        }
        Check.equal("17 part 0", driving().outputTorque(0), -3);
        Check.equal("17 part 1", driving().outputTorque(1), 1);
    }

    /** Promise 17: "Throws IllegalStateException if this torque is not determined". */
    private static void promise17NotDetermined() {
        for (int part = 0; part < 2; part++) {
            int asked = part;
            Refusal.state("17 empty", Boxes::empty, x -> x.outputTorque(asked));
            Refusal.state("17 neutral", TorqueBoundaryTest::neutral, x -> x.outputTorque(asked));
            Refusal.state("17 stopped", TorqueBoundaryTest::stopped, x -> x.outputTorque(asked));
            Refusal.state("17 many solutions", () -> Boxes.small(3), x -> x.outputTorque(asked));
        }
        Check.equal("17 determined although blocked", blocked().outputTorque(0), 0);
    }

    /** Promise 17: the order in which the exceptions are checked. */
    private static void promise17Order() {
        Refusal.argument("17 part before state", TorqueBoundaryTest::neutral, x -> x.outputTorque(2));
        Refusal.argument("17 part before state", Boxes::empty, x -> x.outputTorque(-1));
    }

    /** Promise 18: "Throws IndexOutOfBoundsException if there is no such element". */
    private static void promise18NoSuchElement() {
        int[] wrongs = {-32, -1, 4, 6, 31, 32, LEAST, MOST};
        for (int wrong : wrongs) {
            Refusal.index("18 element " + wrong, TorqueBoundaryTest::driving, x -> x.torque(wrong, 0));
        }
        Refusal.index("18 none at all", Boxes::empty, x -> x.torque(0, 0));
        Refusal.index("18 element 6 of six", Boxes::full, x -> x.torque(6, 0));
    }

    /** Promise 18: "Throws IllegalArgumentException if part is neither 0 nor 1". */
    private static void promise18Part() {
        for (int wrong : WRONG_PARTS) {
            Refusal.argument("18 part " + wrong, TorqueBoundaryTest::driving, x -> x.torque(0, wrong));
        }
        Check.equal("18 part 0", driving().torque(0, 0), 2);
        Check.equal("18 part 1", driving().torque(0, 1), 1);
    }

    /** Promise 18: "Throws IllegalStateException if the element is not engaged". */
    private static void promise18NotEngaged() {
        for (int element = 1; element < 4; element++) {
            int asked = element;
            Refusal.state("18 not engaged " + element, TorqueBoundaryTest::driving,
                    x -> x.torque(asked, 0));
        }
        PlanetaryGearbox box = driving();
        box.release(0);
        Check.state("18 no longer engaged", () -> box.torque(0, 0));
    }

    /** Promise 18: "Throws IllegalStateException if [..] its torque is not determined". */
    private static void promise18NotDetermined() {
        Refusal.state("18 no solution", TorqueBoundaryTest::stopped, x -> x.torque(2, 0));
        Refusal.state("18 many solutions", TorqueBoundaryTest::shared, x -> x.torque(0, 1));
        Refusal.state("18 blocked", () -> Boxes.small(3), x -> x.torque(0, 0));
        Check.equal("18 determined although blocked", blocked().torque(3, 0), -1);
    }

    /** Promise 18: the order in which the exceptions are checked. */
    private static void promise18Order() {
        Refusal.index("18 element before part", TorqueBoundaryTest::driving, x -> x.torque(4, 2));
        Refusal.index("18 element before all", Boxes::empty, x -> x.torque(0, -1));
        Refusal.argument("18 part before not engaged", TorqueBoundaryTest::driving,
                x -> x.torque(1, 2));
        Refusal.argument("18 part before not determined", TorqueBoundaryTest::stopped,
                x -> x.torque(2, -1));
    }

    /** Promise 19 and TORQUES: "is greater than its capacity": one that is equal holds. */
    private static void promise19GreaterThanTheCapacity() {
        Check.equal("19 equal", braked(20, 40, 1000).slipping(500), 0);
        Check.equal("19 greater", braked(20, 40, 1000).slipping(501), 1);
        Check.equal("19 equal to 10000", braked(20, 40, 10000).slipping(5000), 0);
        Check.equal("19 greater than 10000", braked(20, 40, 10000).slipping(5001), 1);
        Check.equal("19 equal to 2", braked(20, 40, 2).slipping(1), 0);
        Check.equal("19 greater than 1", braked(20, 40, 1).slipping(1), 1);
    }

    /** Promise 19 and TORQUES: "absolute value of its torque". */
    private static void promise19AbsoluteValue() {
        PlanetaryGearbox box = Boxes.small(2);
        Check.equal("19 the torque is negative", box.torque(1, 0), -1);
        Check.equal("19 equal", box.slipping(77), 0);
        Check.equal("19 greater", box.slipping(78), 2);
    }

    /** Promise 19 and TORQUES: "m * (absolute value of its torque)", where that is a fraction. */
    private static void promise19Fraction() {
        Check.equal("19 9/2 and 5", braked(20, 30, 5).slipping(3), 0);
        Check.equal("19 12/2 and 5", braked(20, 30, 5).slipping(4), 1);
        Check.equal("19 9/2 and 4", braked(20, 30, 4).slipping(3), 1);
        Check.equal("19 11/10 and 1", braked(10, 11, 1).slipping(1), 1);
        Check.equal("19 99/10 and 9", braked(10, 11, 9).slipping(9), 1);
        Check.equal("19 99/10 and 10", braked(10, 11, 10).slipping(9), 0);
        Check.equal("19 11 and 11", braked(10, 11, 11).slipping(10), 0);
    }

    /** Promise 19, the same sentence: 0 is never greater. */
    private static void promise19TorqueOfZero() {
        PlanetaryGearbox box = driving();
        int idle = box.addBrake(5);
        box.setCapacity(idle, 1);
        box.engage(idle);
        Check.equal("19 a torque of 0", box.torque(idle, 0), 0);
        Check.equal("19 the other brake alone", box.slipping(10000), 1);
    }

    /** Promise 19: "the mask of the engaged elements that slip": all, some, none. */
    private static void promise19NotEngaged() {
        Check.equal("19 nothing engaged", neutral().slipping(10000), 0);
        Check.equal("19 no elements", Boxes.empty().slipping(10000), 0);
        PlanetaryGearbox box = greatNumerators();
        box.release(0);
        box.release(1);
        Check.equal("19 no longer engaged", box.slipping(10000), 0);
        box.select(3);
        Check.equal("19 none", box.slipping(233), 0);
        Check.equal("19 some", box.slipping(234), 1);
        Check.equal("19 all", box.slipping(962), 3);
    }

    /** Promise 19 and TORQUES: "if its torque is determined". */
    private static void promise19NotDetermined() {
        Check.equal("19 many solutions", shared().slipping(10000), 0);
        Check.equal("19 no solution", stopped().slipping(10000), 0);
        Check.equal("19 many solutions, blocked", Boxes.small(3).slipping(10000), 0);
        PlanetaryGearbox box = blocked();
        Check.equal("19 determined although blocked", box.slipping(1001), 8);
        Check.equal("19 holds although blocked", box.slipping(1000), 0);
    }

    /** Promise 19: "inputTorque: input torque, 1 to 10000"; out of range it is refused. */
    private static void promise19InputTorque1To10000() {
        Check.equal("19 torque 1", braked(20, 40, 1).slipping(1), 1);
        Check.equal("19 torque 10000", braked(20, 40, 10000).slipping(10000), 1);
        int[] wrongs = {LEAST, -1, 0, 10001, MOST};
        for (int wrong : wrongs) {
            Refusal.argument("19 torque " + wrong, TorqueBoundaryTest::driving, x -> x.slipping(wrong));
            Refusal.argument("19 torque of nothing " + wrong, Boxes::empty, x -> x.slipping(wrong));
        }
    }

    /** Promise 19: the products leave the ints: they must not wrap around. */
    private static void promise19GreatNumbers() {
        PlanetaryGearbox numerators = greatNumerators();
        Check.equal("19 great numerator", numerators.torque(0, 0), 1421843);
        for (int torque = 962; torque <= 10000; torque += 113) {
            Check.equal("19 great numerator and " + torque, numerators.slipping(torque), 3);
        }
        PlanetaryGearbox denominators = greatDenominators();
        Check.equal("19 great denominator", denominators.torque(1, 1), 507257);
        for (int capacity = 2; capacity <= 10000; capacity += 119) {
            denominators.setCapacity(1, capacity);
            Check.equal("19 great denominator and " + capacity, denominators.slipping(10000), 0);
        }
    }

    /** Promise 20: "from 0": where an input torque of 1 is too much. */
    private static void promise20From0() {
        Check.equal("20 none holds", braked(20, 40, 1).greatestTorque(), 0);
        Check.equal("20 nearly 1", braked(10, 11, 1).greatestTorque(), 0);
        Check.equal("20 exactly 1", braked(20, 40, 2).greatestTorque(), 1);
    }

    /** Promise 20: "to 10000": where more would hold, or nothing could slip. */
    private static void promise20To10000() {
        PlanetaryGearbox box = Boxes.small(2);
        box.setCapacity(1, 9999);
        Check.equal("20 9999", box.greatestTorque(), 9999);
        box.setCapacity(1, 10000);
        Check.equal("20 exactly 10000", box.greatestTorque(), 10000);
        Check.equal("20 more than 10000", greatDenominators().greatestTorque(), 10000);
        PlanetaryGearbox none = new PlanetaryGearbox();
        none.addSet(0, 2, 1, 20, 40);
        none.addSet(0, 2, 1, 20, 41);
        Check.equal("20 no element", none.greatestTorque(), 10000);
        none.addBrake(5);
        none.setCapacity(0, 1);
        none.engage(0);
        Check.equal("20 a torque of 0", none.greatestTorque(), 10000);
    }

    /** Promise 20: "with which no engaged element slips": it does with one more. */
    private static void promise20NoElementSlips() {
        for (int ring = 21; ring <= 100; ring++) {
            PlanetaryGearbox box = braked(20, ring, 100);
            int greatest = box.greatestTorque();
            Check.equal("20 ring " + ring, greatest, 2000 / ring);
            Check.equal("20 holds with ring " + ring, box.slipping(greatest), 0);
            Check.equal("20 slips with ring " + ring, box.slipping(greatest + 1), 1);
        }
        PlanetaryGearbox box = driving();
        box.setCapacity(1, 1);
        Check.equal("20 an element that is not engaged", box.greatestTorque(), 250);
    }

    /** Promise 20 and TORQUES: an element whose torque is not determined does not slip. */
    private static void promise20NotDetermined() {
        Check.equal("20 not determined", shared().greatestTorque(), 10000);
    }

    /** Promise 20: the products leave the ints: they must not wrap around. */
    private static void promise20GreatNumbers() {
        Check.equal("20 great numerator", greatNumerators().greatestTorque(), 233);
        PlanetaryGearbox box = greatDenominators();
        box.setCapacity(1, 1);
        Check.equal("20 507257/84", box.greatestTorque(), 6038);
        for (int capacity = 2; capacity <= 10000; capacity += 119) {
            box.setCapacity(1, capacity);
            Check.equal("20 great denominator and " + capacity, box.greatestTorque(), 10000);
        }
    }

    /** Promise 20: "Throws IllegalStateException if the gearbox is not DRIVING". */
    private static void promise20NotDriving() {
        Refusal.state("20 neutral", TorqueBoundaryTest::neutral, x -> x.greatestTorque());
        Refusal.state("20 stopped", TorqueBoundaryTest::stopped, x -> x.greatestTorque());
        Refusal.state("20 blocked", TorqueBoundaryTest::blocked, x -> x.greatestTorque());
        Refusal.state("20 empty", Boxes::empty, x -> x.greatestTorque());
    }
}

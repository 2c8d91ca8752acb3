/** The boundaries that the sections 'What it is', CONVENTIONS and THE GEARBOX name. */
public final class ConventionBoundaryTest {
    public static void main(String[] args) {
        atMost512Calls();
        partIsNumeratorOrDenominator();
        lowestTerms();
        positiveDenominator();
        zeroAs0By1();
        bitForElement();
        sixShafts();
        inputAndOutput();
        threeGearSets();
        sixElements();
        notEngagedInitially();
        capacity1000Initially();
        Check.finish();
    }

    /** What it is: "An object is used for at most 512 calls after it has been made". */
    private static void atMost512Calls() {
        PlanetaryGearbox box = new PlanetaryGearbox();
        box.addSet(0, 2, 1, 20, 40);
        box.addBrake(2);
        for (int call = 3; call <= 507; call += 3) {
            Check.isTrue("512 calls: engage, call " + call, box.engage(0));
            Check.equal("512 calls: ratio, call " + (call + 1), box.ratio(0), 3);
            Check.isTrue("512 calls: undo, call " + (call + 2), box.undo());
        }
        Check.isTrue("512 calls: engage, call 510", box.engage(0));
        Check.equal("512 calls: gear, call 511", box.gear(0), 1);
        Check.equal("512 calls: torque, call 512", box.torque(0, 0), 2);
    }

    /** CONVENTIONS: "a parameter part selects the numerator (0) or the denominator (1)". */
    private static void partIsNumeratorOrDenominator() {
        PlanetaryGearbox box = reverse();
        Check.equal("part 0 of speed", box.speed(1, 0), -7);
        Check.equal("part 1 of speed", box.speed(1, 1), 10);
        Check.equal("part 0 of ratio", box.ratio(0), -10);
        Check.equal("part 1 of ratio", box.ratio(1), 7);
        Check.equal("part 0 of outputTorque", box.outputTorque(0), 10);
        Check.equal("part 1 of outputTorque", box.outputTorque(1), 7);
        Check.equal("part 0 of torque", box.torque(0, 0), -17);
        Check.equal("part 1 of torque", box.torque(0, 1), 7);
        Check.equal("part 0 of gearRatio", box.gearRatio(0, 0), -10);
        Check.equal("part 1 of gearRatio", box.gearRatio(0, 1), 7);
    }

    /** Input sun, output ring, carrier fixed; 28 and 40 teeth have the common factor 4. */
    private static PlanetaryGearbox reverse() {
        PlanetaryGearbox box = new PlanetaryGearbox();
        box.addSet(0, 1, 2, 28, 40);
        box.addBrake(2);
        box.engage(0);
        return box;
    }

    /** CONVENTIONS: "Fractions are returned in lowest terms". */
    private static void lowestTerms() {
        PlanetaryGearbox box = threeInARow();
        Check.equal("lowest terms of speed", box.speed(3, 0), 1);
        Check.equal("lowest terms of speed", box.speed(3, 1), 3);
        Check.equal("lowest terms of speed", box.speed(1, 0), 1);
        Check.equal("lowest terms of speed", box.speed(1, 1), 27);
        Check.equal("lowest terms of ratio", box.ratio(0), 27);
        Check.equal("lowest terms of ratio", box.ratio(1), 1);
        Check.equal("lowest terms of outputTorque", box.outputTorque(0), -27);
        Check.equal("lowest terms of outputTorque", box.outputTorque(1), 1);
        Check.equal("lowest terms of torque", box.torque(0, 0), 26);
        Check.equal("lowest terms of torque", box.torque(0, 1), 1);
        Check.equal("lowest terms of gearRatio", box.gearRatio(0, 0), 27);
        Check.equal("lowest terms of gearRatio", box.gearRatio(0, 1), 1);
    }

    private static PlanetaryGearbox threeInARow() {
        PlanetaryGearbox box = new PlanetaryGearbox();
        box.addSet(0, 2, 3, 20, 40);
        box.addSet(3, 2, 4, 30, 60);
        box.addSet(4, 2, 1, 40, 80);
        box.addBrake(2);
        box.engage(0);
        return box;
    }

    /** CONVENTIONS: "with a positive denominator", where the number itself is negative. */
    private static void positiveDenominator() {
        PlanetaryGearbox box = reverse();
        Check.isTrue("positive denominator of speed", box.speed(1, 0) < 0 && box.speed(1, 1) > 0);
        Check.isTrue("positive denominator of ratio", box.ratio(0) < 0 && box.ratio(1) > 0);
        Check.isTrue("positive denominator of torque",
                box.torque(0, 0) < 0 && box.torque(0, 1) > 0);
        Check.isTrue("positive denominator of gearRatio",
                box.gearRatio(0, 0) < 0 && box.gearRatio(0, 1) > 0);
        PlanetaryGearbox forward = Boxes.small(Boxes.SMALL_DRIVING);
        Check.isTrue("positive denominator of outputTorque",
                forward.outputTorque(0) < 0 && forward.outputTorque(1) > 0);
    }

    /** CONVENTIONS: "0 as 0/1". */
    private static void zeroAs0By1() {
        PlanetaryGearbox driving = Boxes.small(Boxes.SMALL_DRIVING);
        Check.equal("0/1 of speed", driving.speed(2, 0), 0);
        Check.equal("0/1 of speed", driving.speed(2, 1), 1);
        PlanetaryGearbox blocked = Boxes.small(Boxes.SMALL_BLOCKED);
        Check.equal("0/1 of outputTorque", blocked.outputTorque(0), 0);
        Check.equal("0/1 of outputTorque", blocked.outputTorque(1), 1);
        PlanetaryGearbox idle = Boxes.brakesAlone(6);
        idle.select(0b110001);
        Check.equal("0/1 of torque", idle.torque(5, 0), 0);
        Check.equal("0/1 of torque", idle.torque(5, 1), 1);
    }

    /** CONVENTIONS: "bit e stands for element e", from the first element to the last. */
    private static void bitForElement() {
        for (int element = 0; element < 6; element++) {
            PlanetaryGearbox box = Boxes.brakesAlone(6);
            box.engage(element);
            Check.equal("bit of element " + element, box.engaged(), 1 << element);
            box.select(63);
            box.release(element);
            Check.equal("bit of element " + element, box.engaged(), 63 - (1 << element));
        }
        Check.equal("bit of no element", Boxes.brakesAlone(6).engaged(), 0);
    }

    /** THE GEARBOX: "There are six shafts, 0 to 5." */
    private static void sixShafts() {
        for (int shaft = 0; shaft < 6; shaft++) {
            PlanetaryGearbox box = Boxes.empty();
            Check.equal("shaft " + shaft + " has a brake", box.addBrake(shaft), 0);
            Check.equal("shaft " + shaft + " has a clutch",
                    box.addClutch(shaft, (shaft + 1) % 6), 1);
            Check.equal("shaft " + shaft + " has a set",
                    box.addSet(shaft, (shaft + 1) % 6, (shaft + 2) % 6, 20, 40), 1);
            box.addBrake(shaft == 0 ? 1 : shaft);
            box.engage(2);
            Check.equal("shaft " + shaft + " has a speed", box.speed(shaft == 0 ? 1 : shaft, 0), 0);
        }
    }

    /** THE GEARBOX: "Shaft 0 is the input, shaft 1 is the output." */
    private static void inputAndOutput() {
        PlanetaryGearbox box = Boxes.brakesAlone(2);
        Check.equal("the input has a speed", box.speed(0, 0), 1);
        box.select(1);
        Check.equal("no other shaft is blocked by a brake", box.state(), PlanetaryGearbox.BLOCKED);
        box.select(2);
        Check.equal("no other shaft is stopped by a brake", box.state(), PlanetaryGearbox.STOPPED);
    }

    /** THE GEARBOX: "Up to 3 planetary gear sets can be added." */
    private static void threeGearSets() {
        PlanetaryGearbox box = Boxes.setsAlone(2);
        Check.equal("a third set", box.addSet(3, 4, 5, 10, 100), 3);
        Refusal.state("a fourth set", () -> Boxes.setsAlone(3), x -> x.addSet(3, 4, 5, 10, 100));
    }

    /** THE GEARBOX: "Up to 6 elements can be added, numbered from 0." */
    private static void sixElements() {
        PlanetaryGearbox box = Boxes.empty();
        Check.equal("the first element", box.addClutch(0, 1), 0);
        PlanetaryGearbox five = Boxes.brakesAlone(5);
        Check.equal("the sixth element", five.addClutch(0, 1), 5);
        Refusal.state("a seventh element, a brake", () -> Boxes.brakesAlone(6), x -> x.addBrake(0));
        Refusal.state("a seventh element, a clutch", () -> Boxes.brakesAlone(6),
                x -> x.addClutch(0, 1));
    }

    /** THE GEARBOX: "it is not engaged initially", even where all others are. */
    private static void notEngagedInitially() {
        PlanetaryGearbox box = Boxes.brakesAlone(4);
        box.select(15);
        box.addBrake(0);
        Check.equal("a new brake is not engaged", box.engaged(), 15);
        box.addClutch(0, 1);
        Check.equal("a new clutch is not engaged", box.engaged(), 15);
        Check.isTrue("a new clutch can be engaged", box.engage(5));
    }

    /** THE GEARBOX: "It has a capacity, which is 1000 initially." */
    private static void capacity1000Initially() {
        PlanetaryGearbox box = new PlanetaryGearbox();
        box.addClutch(0, 1);
        box.engage(0);
        Check.equal("a capacity of 1000 holds 1000", box.slipping(1000), 0);
        Check.equal("a capacity of 1000 does not hold 1001", box.slipping(1001), 1);
        for (int element = 0; element < 6; element++) {
            PlanetaryGearbox full = Boxes.brakesAlone(6);
            Check.equal("capacity of " + element, full.setCapacity(element, 1), 1000);
        }
    }
}

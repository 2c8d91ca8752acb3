/** Promises 17 to 20: outputTorque, torque, slipping, greatestTorque. */
public final class TorqueTest {
    private static final int[] WRONG_PARTS = {-1, 2, Integer.MIN_VALUE, Integer.MAX_VALUE};

    public static void main(String[] args) {
        promise17();
        promise18();
        promise18Exceptions();
        promise19();
        promise20();
        promise20NotDetermined();
        Check.finish();
    }

    /** Elements: brake on the ring, clutch input to output, brake on the output, on the input. */
    private static PlanetaryGearbox box() {
        PlanetaryGearbox box = new PlanetaryGearbox();
        box.addSet(0, 2, 1, 20, 50);
        box.addBrake(2);
        box.addClutch(0, 1);
        box.addBrake(1);
        box.addBrake(0);
        return box;
    }

    private static void promise17() {
        PlanetaryGearbox box = box();
        for (int wrong : WRONG_PARTS) {
            Check.argument("17 part before state " + wrong, () -> box.outputTorque(wrong));
        }
        Check.state("17 no solution", () -> box.outputTorque(0));
        box.select(1);
        Check.equal("17 numerator", box.outputTorque(0), -7);
        Check.equal("17 denominator", box.outputTorque(1), 2);
        box.select(2);
        Check.equal("17 clutch", box.outputTorque(0), -1);
        box.select(5);
        Check.state("17 a brake shares it", () -> box.outputTorque(0));
        box.select(8);
        Check.equal("17 determined although blocked", box.state(), PlanetaryGearbox.BLOCKED);
        Check.equal("17 zero", box.outputTorque(0), 0);
        Check.equal("17 zero is 0/1", box.outputTorque(1), 1);
    }

    private static void promise18() {
        PlanetaryGearbox box = box();
        box.select(1);
        Check.equal("18 numerator", box.torque(0, 0), 5);
        Check.equal("18 denominator", box.torque(0, 1), 2);
        box.select(2);
        Check.equal("18 on its first shaft", box.torque(1, 0), -1);
        box.select(8);
        Check.equal("18 brake on the input", box.torque(3, 0), -1);
        PlanetaryGearbox turned = new PlanetaryGearbox();
        turned.addClutch(1, 0);
        turned.addBrake(4);
        turned.select(3);
        Check.equal("18 its second shaft has the negative", turned.torque(0, 0), 1);
        Check.equal("18 a shaft alone", turned.torque(1, 0), 0);
        Check.equal("18 zero is 0/1", turned.torque(1, 1), 1);
    }

    private static void promise18Exceptions() {
        PlanetaryGearbox box = box();
        int[] wrongElements = {-1, 4, 6, Integer.MIN_VALUE, Integer.MAX_VALUE};
        for (int wrong : wrongElements) {
            Check.index("18 element " + wrong, () -> box.torque(wrong, 0));
            Check.index("18 element before part " + wrong, () -> box.torque(wrong, 2));
        }
        for (int wrong : WRONG_PARTS) {
            Check.argument("18 part before state " + wrong, () -> box.torque(0, wrong));
        }
        box.select(1);
        Check.state("18 not engaged", () -> box.torque(1, 0));
        box.select(3);
        Check.state("18 not determined", () -> box.torque(0, 0));
        box.select(4);
        Check.state("18 no solution", () -> box.torque(2, 0));
    }

    private static void promise19() {
        PlanetaryGearbox box = box();
        int[] wrongs = {0, -1, 10001, Integer.MIN_VALUE, Integer.MAX_VALUE};
        for (int wrong : wrongs) {
            Check.argument("19 torque " + wrong, () -> box.slipping(wrong));
        }
        Check.equal("19 nothing engaged", box.slipping(10000), 0);
        box.select(1);
        Check.equal("19 holds with its capacity", box.slipping(400), 0);
        Check.equal("19 slips above it", box.slipping(401), 1);
        box.setCapacity(0, 9);
        Check.equal("19 3 * 5/2 is less than 9", box.slipping(3), 0);
        Check.equal("19 4 * 5/2 is greater than 9", box.slipping(4), 1);
        box.select(2);
        Check.equal("19 a negative torque holds", box.slipping(1000), 0);
        Check.equal("19 a negative torque slips", box.slipping(1001), 2);
        box.select(3);
        Check.equal("19 not determined", box.slipping(10000), 0);
        box.select(8);
        box.setCapacity(3, 1);
        Check.equal("19 also when blocked", box.slipping(2), 8);
        Check.equal("19 least torque", box.slipping(1), 0);
        PlanetaryGearbox two = twoBrakes();
        Check.equal("19 the first alone", two.slipping(401), 1);
        Check.equal("19 both", two.slipping(10000), 3);
    }

    /** Two sets in a row with a brake on each ring; the torques are 5/2 and 7/2 * 2. */
    private static PlanetaryGearbox twoBrakes() {
        PlanetaryGearbox box = new PlanetaryGearbox();
        box.addSet(0, 2, 3, 20, 50);
        box.addSet(3, 4, 1, 20, 40);
        box.addBrake(2);
        box.addBrake(4);
        box.setCapacity(1, 7000);
        box.select(3);
        return box;
    }

    private static void promise20() {
        PlanetaryGearbox box = box();
        Check.state("20 neutral", box::greatestTorque);
        box.select(4);
        Check.state("20 stopped", box::greatestTorque);
        box.select(3);
        Check.state("20 blocked", box::greatestTorque);
        box.select(1);
        Check.equal("20 one element", box.greatestTorque(), 400);
        box.setCapacity(0, 9);
        Check.equal("20 rounded down", box.greatestTorque(), 3);
        box.setCapacity(0, 2);
        Check.equal("20 none at all", box.greatestTorque(), 0);
        box.select(2);
        Check.equal("20 a negative torque", box.greatestTorque(), 1000);
        box.setCapacity(1, 10000);
        Check.equal("20 at most 10000", box.greatestTorque(), 10000);
        PlanetaryGearbox two = twoBrakes();
        Check.equal("20 the first decides", two.greatestTorque(), 400);
        two.setCapacity(1, 70);
        Check.equal("20 the second decides", two.greatestTorque(), 10);
    }

    private static void promise20NotDetermined() {
        PlanetaryGearbox box = new PlanetaryGearbox();
        box.addClutch(0, 1);
        box.addClutch(1, 0);
        box.addBrake(5);
        box.setCapacity(0, 1);
        box.setCapacity(2, 1);
        box.select(7);
        Check.equal("20 driving", box.state(), PlanetaryGearbox.DRIVING);
        Check.equal("20 neither not determined nor zero", box.greatestTorque(), 10000);
        Check.equal("19 neither not determined nor zero", box.slipping(10000), 0);
    }
}

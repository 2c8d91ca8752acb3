/** Promises 13 to 16: state, speed, ratio, ratioAsFloat. */
public final class SpeedTest {
    private static final int[] WRONG_PARTS = {-1, 2, Integer.MIN_VALUE, Integer.MAX_VALUE};

    public static void main(String[] args) {
        promise13();
        promise13WithoutElements();
        promise14();
        promise14Exceptions();
        promise15();
        promise16();
        Check.finish();
    }

    /** Elements: brake on the ring, clutch input to output, brake on the output, on the input. */
    private static PlanetaryGearbox box() {
        PlanetaryGearbox box = new PlanetaryGearbox();
        box.addSet(0, 2, 1, 20, 40);
        box.addBrake(2);
        box.addClutch(0, 1);
        box.addBrake(1);
        box.addBrake(0);
        return box;
    }

    private static void promise13() {
        PlanetaryGearbox box = box();
        Check.equal("13 nothing engaged", box.state(), PlanetaryGearbox.NEUTRAL);
        box.select(1);
        Check.equal("13 brake on the ring", box.state(), PlanetaryGearbox.DRIVING);
        box.select(2);
        Check.equal("13 clutch", box.state(), PlanetaryGearbox.DRIVING);
        box.select(4);
        Check.equal("13 brake on the output", box.state(), PlanetaryGearbox.STOPPED);
        box.select(3);
        Check.equal("13 ring and clutch", box.state(), PlanetaryGearbox.BLOCKED);
        box.select(8);
        Check.equal("13 brake on the input", box.state(), PlanetaryGearbox.BLOCKED);
        box.select(5);
        Check.equal("13 ring and output", box.state(), PlanetaryGearbox.BLOCKED);
    }

    private static void promise13WithoutElements() {
        PlanetaryGearbox box = new PlanetaryGearbox();
        box.addSet(0, 2, 1, 20, 40);
        Check.equal("13 one set", box.state(), PlanetaryGearbox.NEUTRAL);
        box.addSet(0, 2, 1, 20, 60);
        Check.equal("13 two sets on the same shafts", box.state(), PlanetaryGearbox.DRIVING);
        Check.equal("15 their ratio", box.ratio(0), 1);
        PlanetaryGearbox same = new PlanetaryGearbox();
        same.addSet(0, 2, 1, 20, 40);
        same.addSet(0, 2, 1, 10, 20);
        Check.equal("13 sets that say the same", same.state(), PlanetaryGearbox.NEUTRAL);
    }

    private static void promise14() {
        PlanetaryGearbox box = box();
        checkSpeed(box, 0, 1, 1);
        box.select(1);
        checkSpeed(box, 0, 1, 1);
        checkSpeed(box, 1, 1, 3);
        checkSpeed(box, 2, 0, 1);
        box.select(4);
        checkSpeed(box, 1, 0, 1);
        checkSpeed(box, 2, -1, 2);
        box.select(2);
        checkSpeed(box, 1, 1, 1);
        checkSpeed(box, 2, 1, 1);
        PlanetaryGearbox large = new PlanetaryGearbox();
        large.addSet(0, 3, 2, 37, 97);
        large.addSet(2, 3, 4, 31, 89);
        large.addSet(4, 3, 1, 29, 83);
        large.addBrake(3);
        large.engage(0);
        checkSpeed(large, 2, 37, 134);
        checkSpeed(large, 4, 37 * 31, 134 * 120);
        checkSpeed(large, 1, 37 * 31 * 29, 134 * 120 * 112);
    }

    private static void checkSpeed(PlanetaryGearbox box, int shaft, long numerator, long denominator) {
        Check.equal("14 numerator of " + shaft, box.speed(shaft, 0), numerator);
        Check.equal("14 denominator of " + shaft, box.speed(shaft, 1), denominator);
    }

    private static void promise14Exceptions() {
        PlanetaryGearbox box = box();
        int[] wrongShafts = {-1, 6, Integer.MIN_VALUE, Integer.MAX_VALUE};
        for (int wrong : wrongShafts) {
            Check.index("14 shaft " + wrong, () -> box.speed(wrong, 0));
            Check.index("14 shaft before part " + wrong, () -> box.speed(wrong, 2));
        }
        for (int wrong : WRONG_PARTS) {
            Check.argument("14 part " + wrong, () -> box.speed(0, wrong));
            Check.argument("14 part before state " + wrong, () -> box.speed(1, wrong));
        }
        Check.state("14 not determined", () -> box.speed(1, 0));
        box.select(1);
        Check.state("14 a shaft alone", () -> box.speed(3, 0));
        box.select(3);
        for (int shaft = 0; shaft < 6; shaft++) {
            int blocked = shaft;
            Check.state("14 blocked " + shaft, () -> box.speed(blocked, 0));
        }
    }

    private static void promise15() {
        PlanetaryGearbox box = box();
        for (int wrong : WRONG_PARTS) {
            Check.argument("15 part before state " + wrong, () -> box.ratio(wrong));
        }
        Check.state("15 neutral", () -> box.ratio(0));
        box.select(4);
        Check.state("15 stopped", () -> box.ratio(0));
        box.select(3);
        Check.state("15 blocked", () -> box.ratio(1));
        box.select(1);
        Check.equal("15 numerator", box.ratio(0), 3);
        Check.equal("15 denominator", box.ratio(1), 1);
        PlanetaryGearbox reverse = reverse();
        Check.equal("15 the sign is the numerator's", reverse.ratio(0), -10);
        Check.equal("15 the denominator is positive", reverse.ratio(1), 7);
    }

    /** Input ring, output sun, carrier fixed: ratio -20/14 in lowest terms. */
    private static PlanetaryGearbox reverse() {
        PlanetaryGearbox box = new PlanetaryGearbox();
        box.addSet(0, 1, 2, 28, 40);
        box.addBrake(2);
        box.engage(0);
        return box;
    }

    private static void promise16() {
        PlanetaryGearbox box = box();
        Check.state("16 neutral", box::ratioAsFloat);
        box.select(4);
        Check.state("16 stopped", box::ratioAsFloat);
        box.select(3);
        Check.state("16 blocked", box::ratioAsFloat);
        box.select(1);
        Check.equalFloat("16 whole", box.ratioAsFloat(), 3f);
        Check.equalFloat("16 rounded", reverse().ratioAsFloat(), -10f / 7f);
    }
}

/** The boundaries that the section SPEEDS and promises 13 to 16 name: state to ratioAsFloat. */
public final class SpeedBoundaryTest {
    private static final int LEAST = Integer.MIN_VALUE;
    private static final int MOST = Integer.MAX_VALUE;
    private static final int[] WRONG_PARTS = {-1, 2, LEAST, MOST};

    public static void main(String[] args) {
        speedOfTheInput();
        conditionsThatSayTheSame();
        promise13Blocked();
        promise13BlockedBeforeNeutral();
        promise13Neutral();
        promise13Stopped();
        promise13Driving();
        promise14ShaftNot0To5();
        promise14Part();
        promise14Blocked();
        promise14NotDetermined();
        promise14GreatNumbers();
        allSetsAndElements();
        promise14Order();
        promise15Part();
        promise15NotDriving();
        promise15Negative();
        promise15Order();
        promise16NotDriving();
        promise16QuotientOfFloats();
        Check.finish();
    }

    private static PlanetaryGearbox neutral() {
        return Boxes.small(Boxes.SMALL_NEUTRAL);
    }

    private static PlanetaryGearbox driving() {
        return Boxes.small(Boxes.SMALL_DRIVING);
    }

    private static PlanetaryGearbox stopped() {
        return Boxes.small(Boxes.SMALL_STOPPED);
    }

    private static PlanetaryGearbox blocked() {
        return Boxes.small(Boxes.SMALL_BLOCKED);
    }

    /** Two sets on the same shafts, with other teeth: all three shafts turn alike. */
    private static PlanetaryGearbox drivingWithoutElements() {
        PlanetaryGearbox box = new PlanetaryGearbox();
        box.addSet(0, 2, 1, 20, 40);
        box.addSet(0, 2, 1, 20, 41);
        return box;
    }

    /** SPEEDS: "The speed of the input is 1.": also where there is nothing else. */
    private static void speedOfTheInput() {
        Check.equal("input of an empty gearbox", Boxes.empty().speed(0, 0), 1);
        Check.equal("input of an empty gearbox", Boxes.empty().speed(0, 1), 1);
        Check.equal("input in neutral", neutral().speed(0, 0), 1);
        Check.equal("input when stopped", stopped().speed(0, 0), 1);
    }

    /** SPEEDS: "BLOCKED if no speeds satisfy all conditions": not if a condition comes twice. */
    private static void conditionsThatSayTheSame() {
        PlanetaryGearbox sets = Boxes.setsAlone(3);
        Check.equal("three sets alike", sets.state(), PlanetaryGearbox.NEUTRAL);
        PlanetaryGearbox box = Boxes.empty();
        box.addBrake(1);
        box.addBrake(1);
        box.select(3);
        Check.equal("two brakes on the output", box.state(), PlanetaryGearbox.STOPPED);
        box.addClutch(0, 1);
        box.addClutch(1, 0);
        box.select(12);
        Check.equal("two clutches alike", box.state(), PlanetaryGearbox.DRIVING);
        PlanetaryGearbox ring = Boxes.empty();
        ring.addClutch(0, 1);
        ring.addClutch(1, 2);
        ring.addClutch(2, 0);
        ring.select(7);
        Check.equal("three clutches in a ring", ring.state(), PlanetaryGearbox.DRIVING);
    }

    /** Promise 13 and SPEEDS: "The gearbox is BLOCKED if no speeds satisfy all conditions." */
    private static void promise13Blocked() {
        Check.equal("13 brake on the input", blocked().state(), PlanetaryGearbox.BLOCKED);
        Check.equal("13 all engaged", Boxes.small(15).state(), PlanetaryGearbox.BLOCKED);
        Check.equal("13 ring braked, set locked", Boxes.small(3).state(), PlanetaryGearbox.BLOCKED);
        Check.equal("13 two shafts braked", Boxes.small(5).state(), PlanetaryGearbox.BLOCKED);
        PlanetaryGearbox box = Boxes.empty();
        box.addClutch(5, 0);
        box.addBrake(5);
        box.select(3);
        Check.equal("13 clutch to a braked shaft", box.state(), PlanetaryGearbox.BLOCKED);
    }

    /** Promise 13 and SPEEDS: "Otherwise": blocked although the output would not be determined. */
    private static void promise13BlockedBeforeNeutral() {
        PlanetaryGearbox box = Boxes.brakesAlone(1);
        box.engage(0);
        Check.equal("13 nothing but a brake on the input", box.state(), PlanetaryGearbox.BLOCKED);
        PlanetaryGearbox output = Boxes.brakesAlone(2);
        output.select(3);
        Check.equal("13 input and output braked", output.state(), PlanetaryGearbox.BLOCKED);
    }

    /** Promise 13 and SPEEDS: "If the speed of the output is not determined, [..] NEUTRAL". */
    private static void promise13Neutral() {
        Check.equal("13 empty", Boxes.empty().state(), PlanetaryGearbox.NEUTRAL);
        Check.equal("13 nothing engaged", neutral().state(), PlanetaryGearbox.NEUTRAL);
        PlanetaryGearbox box = Boxes.brakesAlone(6);
        box.select(0b111100);
        Check.equal("13 all other shafts stand", box.state(), PlanetaryGearbox.NEUTRAL);
    }

    /** Promise 13 and SPEEDS: "if it is determined and 0, it is STOPPED". */
    private static void promise13Stopped() {
        Check.equal("13 brake on the output", stopped().state(), PlanetaryGearbox.STOPPED);
        PlanetaryGearbox box = Boxes.empty();
        box.addClutch(5, 1);
        box.addBrake(5);
        box.select(3);
        Check.equal("13 no brake on the output", box.state(), PlanetaryGearbox.STOPPED);
    }

    /** Promise 13 and SPEEDS: "if it is determined and not 0, it is DRIVING", also backwards. */
    private static void promise13Driving() {
        Check.equal("13 forward", driving().state(), PlanetaryGearbox.DRIVING);
        Check.equal("13 backward", reverse().state(), PlanetaryGearbox.DRIVING);
        Check.equal("13 without elements", drivingWithoutElements().state(),
                PlanetaryGearbox.DRIVING);
        PlanetaryGearbox alone = Boxes.empty();
        alone.addClutch(1, 0);
        alone.engage(0);
        Check.equal("13 without sets", alone.state(), PlanetaryGearbox.DRIVING);
    }

    private static PlanetaryGearbox reverse() {
        PlanetaryGearbox box = new PlanetaryGearbox();
        box.addSet(0, 1, 2, 30, 70);
        box.addBrake(2);
        box.engage(0);
        return box;
    }

    /** Promise 14: "Throws IndexOutOfBoundsException if the shaft is not 0 to 5". */
    private static void promise14ShaftNot0To5() {
        int[] wrongs = {-1, 6, LEAST, MOST};
        for (int wrong : wrongs) {
            Refusal.index("14 shaft " + wrong, SpeedBoundaryTest::driving, x -> x.speed(wrong, 0));
        }
        PlanetaryGearbox box = Boxes.empty();
        box.addClutch(0, 5);
        box.engage(0);
        Check.equal("14 shaft 0", box.speed(0, 0), 1);
        Check.equal("14 shaft 5", box.speed(5, 0), 1);
    }

    /** Promise 14: "Throws IllegalArgumentException if part is neither 0 nor 1". */
    private static void promise14Part() {
        for (int wrong : WRONG_PARTS) {
            Refusal.argument("14 part " + wrong, SpeedBoundaryTest::driving, x -> x.speed(1, wrong));
        }
        Check.equal("14 part 0", driving().speed(1, 0), 1);
        Check.equal("14 part 1", driving().speed(1, 1), 3);
    }

    /** Promise 14: "Throws IllegalStateException if the gearbox is BLOCKED": for every shaft. */
    private static void promise14Blocked() {
        for (int shaft = 0; shaft < 6; shaft++) {
            int asked = shaft;
            Refusal.state("14 blocked, shaft " + shaft, SpeedBoundaryTest::blocked,
                    x -> x.speed(asked, 0));
            Refusal.state("14 all engaged, shaft " + shaft, () -> Boxes.small(15),
                    x -> x.speed(asked, 1));
        }
    }

    /** Promise 14: "Throws IllegalStateException if [..] the speed is not determined". */
    private static void promise14NotDetermined() {
        for (int shaft = 1; shaft < 6; shaft++) {
            int asked = shaft;
            Refusal.state("14 neutral, shaft " + shaft, SpeedBoundaryTest::neutral,
                    x -> x.speed(asked, 0));
            Refusal.state("14 empty, shaft " + shaft, Boxes::empty, x -> x.speed(asked, 1));
        }
        Refusal.state("14 driving, a shaft alone", SpeedBoundaryTest::driving, x -> x.speed(5, 0));
        PlanetaryGearbox box = Boxes.brakesAlone(6);
        box.select(0b100000);
        Check.equal("14 neutral, but this shaft stands", box.speed(5, 0), 0);
    }

    /** Promises 14 and 15 and "exact speeds": the product of the teeth of all sets is great. */
    private static void promise14GreatNumbers() {
        PlanetaryGearbox box = new PlanetaryGearbox();
        box.addSet(0, 3, 2, 40, 99);
        box.addSet(2, 3, 4, 39, 100);
        box.addSet(4, 3, 1, 37, 100);
        box.addBrake(3);
        box.engage(0);
        Check.equal("14 great numerator", box.speed(1, 0), 40 * 39 * 37);
        Check.equal("14 great denominator", box.speed(1, 1), 139 * 139 * 137);
        Check.equal("15 great numerator", box.ratio(0), 139 * 139 * 137);
        Check.equal("15 great denominator", box.ratio(1), 40 * 39 * 37);
    }

    /** Promises 13 to 15 and THE GEARBOX: "Up to 3 [..] sets", "Up to 6 elements", all engaged. */
    private static void allSetsAndElements() {
        PlanetaryGearbox box = new PlanetaryGearbox();
        box.addSet(0, 2, 3, 20, 40);
        box.addSet(3, 2, 4, 30, 60);
        box.addSet(4, 2, 1, 40, 80);
        for (int element = 0; element < 5; element++) {
            box.addBrake(2);
        }
        box.addBrake(5);
        box.select(63);
        Check.equal("13 all engaged", box.state(), PlanetaryGearbox.DRIVING);
        Check.equal("14 all engaged", box.speed(1, 1), 27);
        Check.equal("14 all engaged", box.speed(5, 0), 0);
        Check.equal("15 all engaged", box.ratio(0), 27);
        Check.equal("17 all engaged", box.outputTorque(0), -27);
        Check.state("18 all engaged", () -> box.torque(0, 0));
        Check.equal("18 all engaged", box.torque(5, 0), 0);
    }

    /** Promise 14: the order in which the exceptions are checked. */
    private static void promise14Order() {
        Refusal.index("14 shaft before part", SpeedBoundaryTest::driving, x -> x.speed(6, 2));
        Refusal.index("14 shaft before part and state", SpeedBoundaryTest::blocked,
                x -> x.speed(-1, -1));
        Refusal.index("14 shaft before state", SpeedBoundaryTest::blocked, x -> x.speed(6, 0));
        Refusal.argument("14 part before blocked", SpeedBoundaryTest::blocked, x -> x.speed(1, 2));
        Refusal.argument("14 part before not determined", SpeedBoundaryTest::neutral,
                x -> x.speed(1, -1));
    }

    /** Promise 15: "Throws IllegalArgumentException if part is neither 0 nor 1". */
    private static void promise15Part() {
        for (int wrong : WRONG_PARTS) {
            Refusal.argument("15 part " + wrong, SpeedBoundaryTest::driving, x -> x.ratio(wrong));
        }
        Check.equal("15 part 0", driving().ratio(0), 3);
        Check.equal("15 part 1", driving().ratio(1), 1);
    }

    /** Promise 15: "Throws IllegalStateException if the gearbox is not DRIVING". */
    private static void promise15NotDriving() {
        for (int part = 0; part < 2; part++) {
            int asked = part;
            Refusal.state("15 neutral", SpeedBoundaryTest::neutral, x -> x.ratio(asked));
            Refusal.state("15 stopped", SpeedBoundaryTest::stopped, x -> x.ratio(asked));
            Refusal.state("15 blocked", SpeedBoundaryTest::blocked, x -> x.ratio(asked));
            Refusal.state("15 empty", Boxes::empty, x -> x.ratio(asked));
        }
        Check.equal("15 driving without elements", drivingWithoutElements().ratio(0), 1);
    }

    /** Promise 15 and SPEEDS: "The ratio is 1 / (speed of the output)", also of a negative one. */
    private static void promise15Negative() {
        Check.equal("15 negative numerator", reverse().ratio(0), -7);
        Check.equal("15 positive denominator", reverse().ratio(1), 3);
    }

    /** Promise 15: the order in which the exceptions are checked. */
    private static void promise15Order() {
        Refusal.argument("15 part before neutral", SpeedBoundaryTest::neutral, x -> x.ratio(2));
        Refusal.argument("15 part before stopped", SpeedBoundaryTest::stopped, x -> x.ratio(-1));
        Refusal.argument("15 part before blocked", SpeedBoundaryTest::blocked, x -> x.ratio(MOST));
    }

    /** Promise 16: "Throws IllegalStateException if the gearbox is not DRIVING". */
    private static void promise16NotDriving() {
        Refusal.state("16 neutral", SpeedBoundaryTest::neutral, x -> x.ratioAsFloat());
        Refusal.state("16 stopped", SpeedBoundaryTest::stopped, x -> x.ratioAsFloat());
        Refusal.state("16 blocked", SpeedBoundaryTest::blocked, x -> x.ratioAsFloat());
        Refusal.state("16 empty", Boxes::empty, x -> x.ratioAsFloat());
    }

    /** Promise 16: "the numerator as a float, divided by the denominator as a float". */
    private static void promise16QuotientOfFloats() {
        Check.equalFloat("16 whole", driving().ratioAsFloat(), 3f);
        Check.equalFloat("16 negative", reverse().ratioAsFloat(), -7f / 3f);
        Check.equalFloat("16 one", drivingWithoutElements().ratioAsFloat(), 1f);
    }
}

/** The boundaries that the section GEARS and promises 21 to 24 name: gear to step. */
public final class GearBoundaryTest {
    private static final int LEAST = Integer.MIN_VALUE;
    private static final int MOST = Integer.MAX_VALUE;
    private static final int NONE = PlanetaryGearbox.NONE;
    private static final int[] WRONG_PARTS = {-1, 2, LEAST, MOST};

    public static void main(String[] args) {
        onlyIfDriving();
        emptyMaskDriving();
        subsetDriving();
        fiveElements();
        notByWhatIsEngaged();
        negativeRatiosFirst();
        equalRatiosByMask();
        nearlyEqualRatios();
        ratiosOfGreatNumbers();
        afterEveryChangeOfTheGearbox();
        afterSubsetsBeganToDrive();
        promise21NoSuchGear();
        promise22None();
        promise22Negative();
        promise22ElementThatDoesNotExist();
        promise23NoSuchGear();
        promise23Part();
        promise23Order();
        promise24OneDoesNotExist();
        promise24QuotientOfFloats();
        Check.finish();
    }

    /** Two gears: 0 is the clutch (mask 2, ratio 1), 1 is the brake (mask 1, ratio 3). */
    private static PlanetaryGearbox twoGears() {
        return Boxes.small(Boxes.SMALL_BLOCKED);
    }

    /** Six clutches from the input to the output, each a gear with the ratio 1. */
    private static PlanetaryGearbox sixClutches() {
        PlanetaryGearbox box = Boxes.empty();
        for (int element = 0; element < 6; element++) {
            box.addClutch(element % 2, 1 - element % 2);
        }
        return box;
    }

    /** GEARS: "A mask is a gear if the gearbox would be DRIVING with exactly these elements". */
    private static void onlyIfDriving() {
        PlanetaryGearbox box = twoGears();
        Check.equal("gears", box.count(2), 2);
        Check.equal("neutral is no gear", box.indexOf(0), NONE);
        Check.equal("stopped is no gear", box.indexOf(4), NONE);
        Check.equal("blocked is no gear", box.indexOf(8), NONE);
        Check.equal("driving is a gear", box.indexOf(2), 0);
        Check.equal("driving is a gear", box.indexOf(1), 1);
    }

    /** GEARS: "for each proper subset [..] NEUTRAL": the empty mask has none, others have it. */
    private static void emptyMaskDriving() {
        PlanetaryGearbox box = new PlanetaryGearbox();
        box.addSet(0, 2, 1, 20, 40);
        box.addSet(0, 2, 1, 20, 41);
        box.addClutch(0, 1);
        box.addBrake(5);
        Check.equal("the empty mask is the only gear", box.count(2), 1);
        Check.equal("the empty mask", box.gear(0), 0);
        Check.equal("its ratio", box.gearRatio(0, 0), 1);
        Check.equal("its way to itself", box.fewestShifts(0, 0), 0);
        Check.equal("driving, but so is the empty mask", box.indexOf(1), NONE);
        Check.equal("driving, but so is the empty mask", box.indexOf(3), NONE);
        Check.equal("an empty gearbox is neutral", Boxes.empty().indexOf(0), NONE);
    }

    /** GEARS, the same sentence: subsets with one element less, and with two less. */
    private static void subsetDriving() {
        PlanetaryGearbox box = Boxes.empty();
        box.addClutch(0, 1);
        box.addBrake(4);
        box.addBrake(5);
        box.select(7);
        Check.equal("driving with all three", box.state(), PlanetaryGearbox.DRIVING);
        Check.equal("one gear", box.count(2), 1);
        Check.equal("the clutch", box.indexOf(1), 0);
        Check.equal("one brake too many", box.indexOf(3), NONE);
        Check.equal("another brake too many", box.indexOf(5), NONE);
        Check.equal("two brakes too many", box.indexOf(7), NONE);
    }

    /** GEARS, the same sentence: a gear of five elements, with none of which it would do. */
    private static void fiveElements() {
        PlanetaryGearbox box = Boxes.empty();
        box.addClutch(0, 2);
        box.addClutch(2, 3);
        box.addClutch(3, 4);
        box.addClutch(4, 5);
        Check.equal("no gear yet", box.count(2), 0);
        box.addClutch(5, 1);
        Check.equal("one gear", box.count(2), 1);
        Check.equal("all five", box.gear(0), 31);
        box.addClutch(1, 0);
        Check.equal("a second gear", box.count(2), 2);
        Check.equal("equal ratios, by mask", box.gear(1), 32);
    }

    /** GEARS: "Gears do not depend on which elements are engaged at present." */
    private static void notByWhatIsEngaged() {
        for (int mask = 0; mask < 16; mask++) {
            PlanetaryGearbox box = Boxes.small(mask);
            Check.equal("gears with " + mask, box.count(2), 2);
            Check.equal("first gear with " + mask, box.gear(0), 2);
            Check.equal("second gear with " + mask, box.gear(1), 1);
            Check.equal("ratio with " + mask, box.gearRatio(1, 0), 3);
            Check.equal("still engaged", box.engaged(), mask);
        }
    }

    /** GEARS: "in ascending order of their ratios": negative ones first, the greatest of them last. */
    private static void negativeRatiosFirst() {
        PlanetaryGearbox box = new PlanetaryGearbox();
        box.addSet(0, 1, 2, 20, 40);
        box.addSet(0, 1, 3, 20, 50);
        box.addSet(0, 4, 1, 20, 60);
        box.addClutch(0, 1);
        box.addBrake(4);
        box.addBrake(2);
        box.addBrake(3);
        int[] masks = {8, 4, 1, 2};
        for (int index = 0; index < 4; index++) {
            Check.equal("gear " + index + " of -5/2, -2, 1, 4", box.gear(index), masks[index]);
        }
        Check.equal("-5/2", box.gearRatio(0, 0), -5);
        Check.equal("-2", box.gearRatio(1, 0), -2);
        Check.equal("4", box.gearRatio(3, 0), 4);
    }

    /** GEARS: "those with equal ratios in ascending order of their masks", from 1 to 32. */
    private static void equalRatiosByMask() {
        PlanetaryGearbox box = sixClutches();
        Check.equal("six gears", box.count(2), 6);
        for (int index = 0; index < 6; index++) {
            Check.equal("gear " + index, box.gear(index), 1 << index);
            Check.equal("index of " + index, box.indexOf(1 << index), index);
        }
    }

    /**
     * GEARS, both sentences: 507144/507173 is less than 507228/507257, though they are equal as
     * floats.
     */
    private static void nearlyEqualRatios() {
        PlanetaryGearbox box = new PlanetaryGearbox();
        box.addSet(4, 0, 2, 35, 67);
        box.addSet(3, 5, 4, 29, 84);
        box.addSet(4, 1, 2, 23, 44);
        box.addBrake(3);
        box.addClutch(1, 5);
        box.addClutch(0, 5);
        Check.equal("the smaller ratio has the greater mask", box.gear(0), 5);
        Check.equal("the smaller ratio", box.gearRatio(0, 1), 507173);
        Check.equal("the greater ratio has the smaller mask", box.gear(1), 3);
        Check.equal("the greater ratio", box.gearRatio(1, 1), 507257);
        Check.equal("the greatest ratio", box.gear(2), 6);
        Check.equalFloat("24 equal as floats", box.step(0), 1f);
    }

    /** GEARS, the first sentence: 2185/3922 is less than 812915/86284; 812915 * 3922 is no int. */
    private static void ratiosOfGreatNumbers() {
        PlanetaryGearbox box = new PlanetaryGearbox();
        box.addSet(1, 4, 3, 23, 83);
        box.addSet(0, 5, 3, 37, 58);
        box.addSet(4, 2, 1, 22, 75);
        box.addBrake(5);
        box.addBrake(2);
        box.addBrake(4);
        Check.equal("two gears of great numbers", box.count(2), 2);
        Check.equal("the smaller ratio has the greater mask", box.gear(0), 5);
        Check.equal("the smaller ratio", box.gearRatio(0, 0), 2185);
        Check.equal("the greater ratio has the smaller mask", box.gear(1), 3);
        Check.equal("the greater ratio", box.gearRatio(1, 0), 812915);
    }

    /** GEARS: "A mask is a gear if": as the sets and elements are now, after gears were asked. */
    private static void afterEveryChangeOfTheGearbox() {
        PlanetaryGearbox box = Boxes.empty();
        Check.equal("empty", box.count(2), 0);
        box.addBrake(2);
        Check.equal("after a brake", box.count(2), 0);
        box.save(0);
        box.addSet(0, 2, 1, 20, 40);
        Check.equal("after a set", box.count(2), 1);
        Check.equal("after a set", box.gear(0), 1);
        box.addClutch(0, 1);
        Check.equal("after a clutch", box.gear(0), 2);
        box.addBrake(2);
        Check.equal("after another brake", box.gear(2), 4);
        box.restore(0);
        Check.equal("after a restore", box.count(2), 0);
        Check.index("after a restore", () -> box.gear(0));
    }

    /** GEARS, the same sentence: masks that were neutral with all their subsets no longer are. */
    private static void afterSubsetsBeganToDrive() {
        PlanetaryGearbox box = Boxes.empty();
        box.addBrake(2);
        box.addBrake(4);
        box.addBrake(5);
        Check.equal("three brakes", box.count(2), 0);
        box.addSet(0, 2, 1, 20, 40);
        Check.equal("one of them drives", box.count(2), 1);
        Check.equal("the first", box.gear(0), 1);
        Check.equal("not all three", box.indexOf(7), NONE);
    }

    /** Promise 21: "Throws IndexOutOfBoundsException if there is no such gear". */
    private static void promise21NoSuchGear() {
        Check.equal("21 the first", sixClutches().gear(0), 1);
        Check.equal("21 the last", sixClutches().gear(5), 32);
        int[] wrongs = {LEAST, -1, 6, 63, 64, MOST};
        for (int wrong : wrongs) {
            Refusal.index("21 gear " + wrong, GearBoundaryTest::sixClutches, x -> x.gear(wrong));
        }
        Refusal.index("21 gear 2 of two", GearBoundaryTest::twoGears, x -> x.gear(2));
        Refusal.index("21 none at all", Boxes::empty, x -> x.gear(0));
    }

    /** Promise 22: "or NONE if the mask is not a gear": for all masks but those of the gears. */
    private static void promise22None() {
        PlanetaryGearbox box = sixClutches();
        for (int mask = 0; mask < 64; mask++) {
            boolean gear = Integer.bitCount(mask) == 1;
            int due = gear ? Integer.numberOfTrailingZeros(mask) : NONE;
            Check.equal("22 mask " + mask, box.indexOf(mask), due);
        }
        Check.equal("22 nothing of nothing", Boxes.empty().indexOf(0), NONE);
    }

    /** Promise 22: "Throws IllegalArgumentException if the mask is negative". */
    private static void promise22Negative() {
        int[] wrongs = {-1, -2, -64, LEAST, LEAST + 1};
        for (int wrong : wrongs) {
            Refusal.argument("22 mask " + wrong, GearBoundaryTest::twoGears, x -> x.indexOf(wrong));
            Refusal.argument("22 full, mask " + wrong, Boxes::full, x -> x.indexOf(wrong));
        }
    }

    /** Promise 22: "Throws [..] if the mask [..] contains an element that does not exist". */
    private static void promise22ElementThatDoesNotExist() {
        for (int element = 4; element < 31; element++) {
            int wrong = 1 << element | 1;
            Refusal.argument("22 element " + element, GearBoundaryTest::twoGears,
                    x -> x.indexOf(wrong));
        }
        Refusal.argument("22 a seventh", Boxes::full, x -> x.indexOf(64));
        Refusal.argument("22 most", Boxes::full, x -> x.indexOf(MOST));
        Refusal.argument("22 one of none", Boxes::empty, x -> x.indexOf(1));
        Check.equal("22 all there are", twoGears().indexOf(15), NONE);
    }

    /** Promise 23: "Throws IndexOutOfBoundsException if there is no such gear". */
    private static void promise23NoSuchGear() {
        int[] wrongs = {LEAST, -1, 2, 64, MOST};
        for (int wrong : wrongs) {
            Refusal.index("23 gear " + wrong, GearBoundaryTest::twoGears, x -> x.gearRatio(wrong, 0));
        }
        Refusal.index("23 none at all", Boxes::empty, x -> x.gearRatio(0, 0));
        Check.equal("23 the first", twoGears().gearRatio(0, 0), 1);
        Check.equal("23 the last", twoGears().gearRatio(1, 0), 3);
    }

    /** Promise 23: "Throws IllegalArgumentException if part is neither 0 nor 1". */
    private static void promise23Part() {
        for (int wrong : WRONG_PARTS) {
            Refusal.argument("23 part " + wrong, GearBoundaryTest::twoGears,
                    x -> x.gearRatio(1, wrong));
        }
        Check.equal("23 part 0", twoGears().gearRatio(1, 0), 3);
        Check.equal("23 part 1", twoGears().gearRatio(1, 1), 1);
    }

    /** Promise 23: the order in which the exceptions are checked. */
    private static void promise23Order() {
        Refusal.index("23 gear before part", GearBoundaryTest::twoGears, x -> x.gearRatio(2, 2));
        Refusal.index("23 gear before part", Boxes::empty, x -> x.gearRatio(0, -1));
    }

    /** Promise 24: "Throws IndexOutOfBoundsException if one of both gears does not exist". */
    private static void promise24OneDoesNotExist() {
        Refusal.index("24 the last has no next one", GearBoundaryTest::twoGears, x -> x.step(1));
        Refusal.index("24 the first has none before it", GearBoundaryTest::twoGears,
                x -> x.step(-1));
        int[] wrongs = {LEAST, -2, 2, 63, 64, MOST - 1, MOST};
        for (int wrong : wrongs) {
            Refusal.index("24 gear " + wrong, GearBoundaryTest::twoGears, x -> x.step(wrong));
        }
        Refusal.index("24 none at all", Boxes::empty, x -> x.step(0));
        Refusal.index("24 none at all", Boxes::empty, x -> x.step(-1));
        PlanetaryGearbox one = Boxes.empty();
        one.addClutch(0, 1);
        Check.index("24 a single gear", () -> one.step(0));
        Check.equalFloat("24 the last step", sixClutches().step(4), 1f);
    }

    /** Promise 24: "as a float [..], divided by [..] as a float": three roundings, no fewer. */
    private static void promise24QuotientOfFloats() {
        PlanetaryGearbox box = new PlanetaryGearbox();
        box.addSet(0, 2, 1, 12, 13);
        box.addSet(0, 3, 1, 10, 14);
        box.addBrake(2);
        box.addBrake(3);
        Check.equalFloat("24 rounded thrice", box.step(0), 1.1520001f);
        Check.equalFloat("24 whole", twoGears().step(0), 3f);
    }
}

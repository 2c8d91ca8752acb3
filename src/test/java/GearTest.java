/** Promises 21 to 24: gear, indexOf, gearRatio, step. */
public final class GearTest {
    private static final int[] WRONG_PARTS = {-1, 2, Integer.MIN_VALUE, Integer.MAX_VALUE};

    public static void main(String[] args) {
        promise21();
        promise21EmptyMask();
        promise21AfterAdding();
        promise22();
        promise23();
        promise24();
        Check.finish();
    }

    /**
     * The gears are, in order: clutch 3 and brake 2 (-4), clutch 0 and brake 1 (-3/4),
     * clutches 0 and 3 (1), brakes 1 and 2 (3).
     */
    private static PlanetaryGearbox box() {
        PlanetaryGearbox box = new PlanetaryGearbox();
        box.addSet(0, 2, 1, 30, 60);
        box.addSet(2, 3, 4, 20, 50);
        box.addClutch(0, 3);
        box.addBrake(4);
        box.addBrake(3);
        box.addClutch(1, 4);
        return box;
    }

    private static void promise21() {
        PlanetaryGearbox box = box();
        Check.equal("21 gears", box.count(2), 4);
        int[] masks = {12, 3, 9, 6};
        for (int index = 0; index < 4; index++) {
            Check.equal("21 gear " + index, box.gear(index), masks[index]);
        }
        box.select(15);
        Check.equal("21 not by what is engaged", box.gear(3), 6);
        int[] wrongs = {-1, 4, 63, 64, Integer.MIN_VALUE, Integer.MAX_VALUE};
        for (int wrong : wrongs) {
            Check.index("21 gear " + wrong, () -> box.gear(wrong));
        }
        PlanetaryGearbox equal = new PlanetaryGearbox();
        equal.addSet(0, 2, 1, 20, 40);
        equal.addClutch(1, 2);
        equal.addBrake(2);
        equal.addClutch(0, 2);
        equal.addClutch(0, 1);
        int[] byMask = {1, 4, 8, 2};
        for (int index = 0; index < 4; index++) {
            Check.equal("21 equal ratios by mask " + index, equal.gear(index), byMask[index]);
        }
    }

    private static void promise21EmptyMask() {
        PlanetaryGearbox box = new PlanetaryGearbox();
        box.addClutch(0, 1);
        box.addSet(0, 2, 1, 20, 40);
        box.addSet(0, 2, 1, 20, 60);
        Check.equal("21 no element is needed", box.count(2), 1);
        Check.equal("21 nothing engaged", box.gear(0), 0);
        Check.equal("22 nothing engaged", box.indexOf(0), 0);
        Check.equal("22 more than needed", box.indexOf(1), PlanetaryGearbox.NONE);
    }

    private static void promise21AfterAdding() {
        PlanetaryGearbox box = new PlanetaryGearbox();
        Check.index("21 no gear", () -> box.gear(0));
        box.addClutch(0, 1);
        Check.equal("21 a clutch", box.gear(0), 1);
        box.addBrake(2);
        Check.index("21 no gear of the brake", () -> box.gear(1));
        box.addSet(0, 2, 1, 20, 40);
        Check.equal("21 a gear of the brake", box.gear(1), 2);
        PlanetaryGearbox braked = new PlanetaryGearbox();
        braked.addSet(0, 2, 1, 20, 40);
        Check.index("21 no brake yet", () -> braked.gear(0));
        braked.addBrake(2);
        Check.equal("21 the gear of a new brake", braked.gear(0), 1);
    }

    private static void promise22() {
        PlanetaryGearbox box = box();
        int[] masks = {12, 3, 9, 6};
        for (int mask = 0; mask < 16; mask++) {
            int due = PlanetaryGearbox.NONE;
            for (int index = 0; index < 4; index++) {
                due = masks[index] == mask ? index : due;
            }
            Check.equal("22 mask " + mask, box.indexOf(mask), due);
        }
        int[] wrongs = {-1, 16, 64, Integer.MIN_VALUE, Integer.MAX_VALUE};
        for (int wrong : wrongs) {
            Check.argument("22 mask " + wrong, () -> box.indexOf(wrong));
        }
    }

    private static void promise23() {
        PlanetaryGearbox box = box();
        long[] numerators = {-4, -3, 1, 3};
        long[] denominators = {1, 4, 1, 1};
        for (int index = 0; index < 4; index++) {
            Check.equal("23 numerator " + index, box.gearRatio(index, 0), numerators[index]);
            Check.equal("23 denominator " + index, box.gearRatio(index, 1), denominators[index]);
        }
        int[] wrongs = {-1, 4, Integer.MIN_VALUE, Integer.MAX_VALUE};
        for (int wrong : wrongs) {
            Check.index("23 gear " + wrong, () -> box.gearRatio(wrong, 0));
            Check.index("23 gear before part " + wrong, () -> box.gearRatio(wrong, 2));
        }
        for (int wrong : WRONG_PARTS) {
            Check.argument("23 part " + wrong, () -> box.gearRatio(0, wrong));
        }
    }

    private static void promise24() {
        PlanetaryGearbox box = box();
        Check.equalFloat("24 step 0", box.step(0), 0.1875f);
        Check.equalFloat("24 step 1", box.step(1), 1f / -0.75f);
        Check.equalFloat("24 step 2", box.step(2), 3f);
        int[] wrongs = {-2, -1, 3, 4, Integer.MIN_VALUE, Integer.MAX_VALUE};
        for (int wrong : wrongs) {
            Check.index("24 step " + wrong, () -> box.step(wrong));
        }
        PlanetaryGearbox thirds = new PlanetaryGearbox();
        thirds.addSet(0, 2, 1, 30, 37);
        thirds.addBrake(2);
        thirds.addSet(0, 3, 1, 31, 36);
        thirds.addBrake(3);
        Check.equalFloat("24 rounded thrice", thirds.step(0), (67f / 30f) / (67f / 31f));
        Check.index("24 one gear too few", () -> thirds.step(1));
        Check.index("24 no gear", () -> new PlanetaryGearbox().step(0));
    }
}

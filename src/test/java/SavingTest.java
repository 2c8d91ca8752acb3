/** Promises 27 and 28: save, restore. */
public final class SavingTest {
    private static final int[] WRONG_SLOTS = {-1, 2, Integer.MIN_VALUE, Integer.MAX_VALUE};

    public static void main(String[] args) {
        wrongSlots();
        everythingComesBack();
        slotsKeepAndAreOverwritten();
        restoreOfMoreThanThereIs();
        Check.finish();
    }

    private static void wrongSlots() {
        PlanetaryGearbox box = new PlanetaryGearbox();
        for (int wrong : WRONG_SLOTS) {
            Check.argument("27 slot " + wrong, () -> box.save(wrong));
            Check.argument("28 slot " + wrong, () -> box.restore(wrong));
        }
        Check.state("28 nothing in 0", () -> box.restore(0));
        Check.state("28 nothing in 1", () -> box.restore(1));
        box.save(1);
        Check.state("28 still nothing in 0", () -> box.restore(0));
        box.addBrake(1);
        box.restore(1);
        Check.equal("28 an empty gearbox", box.count(1), 0);
    }

    private static void everythingComesBack() {
        PlanetaryGearbox box = new PlanetaryGearbox();
        box.addSet(0, 2, 1, 20, 40);
        box.addBrake(2);
        box.addClutch(0, 1);
        box.setCapacity(0, 50);
        box.engage(0);
        box.save(0);
        box.addSet(0, 2, 1, 20, 60);
        box.addBrake(5);
        box.setCapacity(0, 60);
        box.select(6);
        Check.equal("27 saving changes nothing", box.gear(0), 0);
        box.restore(0);
        Check.equal("28 sets", box.count(0), 1);
        Check.equal("28 elements", box.count(1), 2);
        Check.equal("28 gears", box.count(2), 2);
        Check.equal("28 engaged", box.engaged(), 1);
        Check.equal("28 ratio", box.ratio(0), 3);
        Check.equal("28 greatest torque", box.greatestTorque(), 25);
        Check.equal("28 capacity", box.setCapacity(0, 70), 50);
        Check.isFalse("28 undo", box.undo());
        Check.equal("28 a new element", box.addClutch(1, 2), 2);
        Check.equal("28 its capacity", box.setCapacity(2, 5), 1000);
        Check.equal("28 a new gear", box.count(2), 3);
    }

    private static void slotsKeepAndAreOverwritten() {
        PlanetaryGearbox box = new PlanetaryGearbox();
        box.addBrake(1);
        box.save(0);
        box.addClutch(0, 1);
        box.engage(1);
        box.save(1);
        box.restore(0);
        Check.equal("28 slot 0", box.count(1), 1);
        Check.equal("28 slot 0 engaged", box.engaged(), 0);
        box.setCapacity(0, 9);
        box.engage(0);
        box.restore(1);
        Check.equal("28 slot 1", box.count(1), 2);
        Check.equal("28 slot 1 engaged", box.engaged(), 2);
        box.restore(0);
        Check.equal("28 slot 0 again", box.count(1), 1);
        Check.equal("28 the slot was not changed", box.setCapacity(0, 9), 1000);
        box.save(1);
        box.addBrake(3);
        box.restore(1);
        Check.equal("27 overwritten", box.count(1), 1);
        Check.equal("27 overwritten capacity", box.setCapacity(0, 3), 9);
    }

    private static void restoreOfMoreThanThereIs() {
        PlanetaryGearbox box = new PlanetaryGearbox();
        box.save(0);
        for (int set = 0; set < 3; set++) {
            box.addSet(0, 2, 1, 20, 40 + set);
        }
        for (int element = 0; element < 6; element++) {
            box.addBrake(5);
        }
        box.save(1);
        box.restore(0);
        Check.equal("28 a set in the empty one", box.addSet(1, 2, 3, 10, 20), 1);
        box.restore(1);
        Check.state("28 full of sets", () -> box.addSet(0, 2, 1, 20, 40));
        Check.state("28 full of elements", () -> box.addBrake(0));
    }
}

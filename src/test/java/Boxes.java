/** The gearboxes on which the tests of boundaries stand; each call makes a new one. */
final class Boxes {
    /** Masks of the small gearbox that make each state. */
    static final int SMALL_NEUTRAL = 0;
    static final int SMALL_DRIVING = 1;
    static final int SMALL_STOPPED = 4;
    static final int SMALL_BLOCKED = 8;

    private Boxes() {
    }

    static PlanetaryGearbox empty() {
        return new PlanetaryGearbox();
    }

    /**
     * One gear set with the sun on the input, the ring on shaft 2 and the carrier on the output.
     * Elements: 0 brake on the ring, 1 clutch from input to output, 2 brake on the output, 3 brake
     * on the input. Slot 0 holds another gearbox, slot 1 nothing; there are changes to undo.
     */
    static PlanetaryGearbox small(int mask) {
        PlanetaryGearbox box = new PlanetaryGearbox();
        box.addBrake(2);
        box.setCapacity(0, 500);
        box.engage(0);
        box.save(0);
        box.addClutch(0, 1);
        box.addBrake(1);
        box.addBrake(0);
        box.setCapacity(1, 77);
        box.addSet(0, 2, 1, 20, 40);
        box.select(2);
        box.select(mask);
        return box;
    }

    /** Three gear sets, six elements, both slots with other gearboxes, 20 changes to undo. */
    static PlanetaryGearbox full() {
        PlanetaryGearbox box = small(SMALL_DRIVING);
        box.addSet(2, 3, 4, 30, 60);
        box.save(1);
        box.addSet(3, 5, 1, 25, 100);
        box.addBrake(4);
        box.addClutch(5, 0);
        box.setCapacity(5, 10000);
        for (int change = 1; change <= 25; change++) {
            box.select(change * 5 % 64);
        }
        return box;
    }

    static PlanetaryGearbox setsAlone(int sets) {
        PlanetaryGearbox box = new PlanetaryGearbox();
        for (int set = 0; set < sets; set++) {
            box.addSet(0, 2, 1, 20, 40);
        }
        return box;
    }

    static PlanetaryGearbox brakesAlone(int brakes) {
        PlanetaryGearbox box = new PlanetaryGearbox();
        for (int brake = 0; brake < brakes; brake++) {
            box.addBrake(brake);
        }
        return box;
    }
}

import java.util.function.Supplier;

/** The boundaries that promises 27 and 28 name: save, restore. */
public final class SavingBoundaryTest {
    private static final int[] WRONG_SLOTS = {Integer.MIN_VALUE, -1, 2, 3, Integer.MAX_VALUE};

    public static void main(String[] args) {
        promise27ChangesNothingElse();
        promise27EveryPart();
        promise27EveryNumber();
        promise27Empty();
        promise27Full();
        promise27Overwrites();
        promise27NoSuchSlot();
        promise28SavedLast();
        promise28SlotKeepsIt();
        promise28OtherSlot();
        promise28NoSuchSlot();
        promise28NothingSaved();
        promise28Order();
        Check.finish();
    }

    private static PlanetaryGearbox driving() {
        return Boxes.small(Boxes.SMALL_DRIVING);
    }

    /** Looks the same in all that a slot holds: changes to undo and slots are not among it. */
    private static void alike(String sentence, Supplier<PlanetaryGearbox> got,
            Supplier<PlanetaryGearbox> due) {
        int[] kinds = {Look.PRESENT, Look.CAPACITIES, Look.MASKS, Look.GEARS, Look.ROOM};
        for (int kind : kinds) {
            Check.equalText(sentence, Look.at(got.get(), kind), Look.at(due.get(), kind));
        }
    }

    /** Promise 27: "Saves [..] in a slot": the gearbox itself and the other slot stay. */
    private static void promise27ChangesNothingElse() {
        for (int kind = 0; kind < Look.KINDS; kind++) {
            PlanetaryGearbox box = Boxes.full();
            box.save(1);
            if (kind != Look.SLOT_1) {
                Check.equalText("27 after save, kind " + kind, Look.at(box, kind),
                        Look.at(Boxes.full(), kind));
            }
        }
    }

    /** Promise 27: "the gear sets, the elements with their capacities, and which [..] engaged". */
    private static void promise27EveryPart() {
        alike("27 and 28 all parts", () -> {
            PlanetaryGearbox box = driving();
            box.save(1);
            box.setCapacity(0, 1);
            box.setCapacity(1, 2);
            box.select(15);
            box.addSet(2, 3, 4, 30, 60);
            box.addBrake(3);
            box.restore(1);
            return box;
        }, SavingBoundaryTest::driving);
    }

    /** Promise 27, the same sentence: each number comes back where there was another one. */
    private static void promise27EveryNumber() {
        PlanetaryGearbox box = Boxes.empty();
        box.save(1);
        box.addSet(0, 2, 3, 20, 40);
        box.addSet(3, 4, 5, 20, 60);
        box.addSet(5, 2, 1, 20, 80);
        box.addBrake(2);
        box.addBrake(4);
        box.select(3);
        box.save(0);
        box.restore(1);
        box.addSet(4, 3, 2, 11, 23);
        box.addSet(5, 0, 1, 13, 29);
        box.addSet(2, 1, 4, 17, 31);
        box.addClutch(5, 0);
        box.addClutch(3, 1);
        box.restore(0);
        Check.equal("27 and 28 first set", box.speed(3, 1), 3);
        Check.equal("27 and 28 second set", box.speed(5, 1), 3 * 4);
        Check.equal("27 and 28 third set", box.speed(1, 1), 3 * 4 * 5);
        Check.equal("27 and 28 all sets", box.ratio(0), 3 * 4 * 5);
        Check.isTrue("27 and 28 elements", box.brakesOnly());
    }

    /** Promise 27, the same sentence: where there is nothing to save. */
    private static void promise27Empty() {
        alike("27 and 28 empty", () -> {
            PlanetaryGearbox box = Boxes.empty();
            box.save(0);
            box.addSet(0, 2, 1, 20, 40);
            box.addBrake(2);
            box.setCapacity(0, 7);
            box.engage(0);
            box.restore(0);
            return box;
        }, Boxes::empty);
    }

    /** Promise 27, the same sentence: where there is no room for more. */
    private static void promise27Full() {
        alike("27 and 28 full", () -> {
            PlanetaryGearbox box = Boxes.full();
            box.save(1);
            box.restore(0);
            box.addClutch(4, 5);
            box.restore(1);
            return box;
        }, Boxes::full);
        PlanetaryGearbox box = Boxes.full();
        box.save(0);
        box.restore(0);
        Check.state("28 no room for a set", () -> box.addSet(0, 1, 2, 20, 40));
        Check.state("28 no room for an element", () -> box.addBrake(0));
    }

    /** Promise 27: "and overwrites what was saved there". */
    private static void promise27Overwrites() {
        PlanetaryGearbox box = Boxes.full();
        box.save(0);
        box.select(0);
        box.setCapacity(5, 4);
        box.save(0);
        box.select(63);
        box.setCapacity(5, 5);
        box.restore(0);
        Check.equal("27 engaged", box.engaged(), 0);
        Check.equal("27 capacity", box.setCapacity(5, 6), 4);
        PlanetaryGearbox smaller = Boxes.empty();
        smaller.save(0);
        smaller.addBrake(1);
        smaller.save(1);
        smaller.restore(0);
        smaller.save(1);
        smaller.restore(1);
        Check.equal("27 overwritten with less", smaller.count(1), 0);
    }

    /** Promise 27: "Throws IllegalArgumentException if the slot does not exist". */
    private static void promise27NoSuchSlot() {
        for (int wrong : WRONG_SLOTS) {
            Refusal.argument("27 slot " + wrong, Boxes::full, x -> x.save(wrong));
            Refusal.argument("27 empty, slot " + wrong, Boxes::empty, x -> x.save(wrong));
        }
    }

    /** Promise 28: "Restores what was saved last in a slot": in both of them. */
    private static void promise28SavedLast() {
        for (int slot = 0; slot < 2; slot++) {
            PlanetaryGearbox box = Boxes.brakesAlone(6);
            for (int saved = 1; saved <= 3; saved++) {
                box.select(saved);
                box.save(slot);
            }
            box.select(60);
            box.restore(slot);
            Check.equal("28 slot " + slot, box.engaged(), 3);
        }
    }

    /** Promise 28: "in a slot, which keeps it": whatever is done with the gearbox then. */
    private static void promise28SlotKeepsIt() {
        for (int slot = 0; slot < 2; slot++) {
            PlanetaryGearbox box = driving();
            box.save(slot);
            for (int time = 1; time <= 3; time++) {
                box.restore(slot);
                Check.equal("28 elements, time " + time, box.count(1), 4);
                Check.equal("28 sets, time " + time, box.count(0), 1);
                Check.equal("28 engaged, time " + time, box.engaged(), 1);
                Check.equal("28 capacity, time " + time, box.setCapacity(1, 1), 77);
                Check.equal("28 gears, time " + time, box.count(2), 2);
                box.addBrake(3);
                box.addSet(0, 2, 1, 20, 60);
                box.select(30);
            }
        }
    }

    /** Promise 28: "in a slot": what is saved in the other one stays there. */
    private static void promise28OtherSlot() {
        PlanetaryGearbox box = Boxes.brakesAlone(3);
        box.select(1);
        box.save(0);
        box.select(2);
        box.save(1);
        box.restore(0);
        Check.equal("28 slot 0", box.engaged(), 1);
        box.restore(1);
        Check.equal("28 slot 1", box.engaged(), 2);
        box.restore(0);
        Check.equal("28 slot 0 again", box.engaged(), 1);
    }

    /** Promise 28: "Throws IllegalArgumentException if the slot does not exist". */
    private static void promise28NoSuchSlot() {
        for (int wrong : WRONG_SLOTS) {
            Refusal.argument("28 slot " + wrong, Boxes::full, x -> x.restore(wrong));
        }
    }

    /** Promise 28: "Throws IllegalStateException if nothing was saved in it". */
    private static void promise28NothingSaved() {
        for (int slot = 0; slot < 2; slot++) {
            int asked = slot;
            Refusal.state("28 nothing in " + slot, Boxes::empty, x -> x.restore(asked));
            Refusal.state("28 only in the other, not in " + slot, () -> {
                PlanetaryGearbox box = Boxes.brakesAlone(2);
                box.engage(1);
                box.save(1 - asked);
                return box;
            }, x -> x.restore(asked));
        }
        Refusal.state("28 nothing in 1, much in the gearbox", SavingBoundaryTest::driving,
                x -> x.restore(1));
    }

    /** Promise 28: the order in which the exceptions are checked. */
    private static void promise28Order() {
        for (int wrong : WRONG_SLOTS) {
            Refusal.argument("28 slot before nothing saved " + wrong, Boxes::empty,
                    x -> x.restore(wrong));
        }
    }
}

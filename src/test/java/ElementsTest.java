/** Promises 7 to 12: engage, release, select, undo, engaged, brakesOnly. */
public final class ElementsTest {
    private static final int[] WRONG_ELEMENTS = {-1, 3, 6, 31, 32, 33, Integer.MIN_VALUE, Integer.MAX_VALUE};

    public static void main(String[] args) {
        promises7And8();
        promise9();
        promise10();
        promise10NoChanges();
        promise10Limit();
        promise10Restore();
        promise11();
        promise12();
        Check.finish();
    }

    /** Elements 0 and 2 are brakes, element 1 is a clutch. */
    private static PlanetaryGearbox box() {
        PlanetaryGearbox box = new PlanetaryGearbox();
        box.addSet(0, 2, 1, 20, 40);
        box.addBrake(2);
        box.addClutch(0, 1);
        box.addBrake(4);
        return box;
    }

    private static void promises7And8() {
        PlanetaryGearbox box = box();
        Check.isTrue("7 engage 1", box.engage(1));
        Check.isFalse("7 engage 1 again", box.engage(1));
        Check.isTrue("7 engage 2", box.engage(2));
        Check.equal("7 both", box.engaged(), 6);
        Check.isFalse("8 release 0", box.release(0));
        Check.isTrue("8 release 1", box.release(1));
        Check.isFalse("8 release 1 again", box.release(1));
        Check.equal("8 one left", box.engaged(), 4);
        for (int wrong : WRONG_ELEMENTS) {
            Check.index("7 engage " + wrong, () -> box.engage(wrong));
            Check.index("8 release " + wrong, () -> box.release(wrong));
        }
        Check.equal("7 nothing changed", box.engaged(), 4);
        PlanetaryGearbox empty = new PlanetaryGearbox();
        Check.index("7 no element", () -> empty.engage(0));
        Check.index("8 no element", () -> empty.release(0));
    }

    private static void promise9() {
        PlanetaryGearbox box = box();
        Check.equal("9 select 5", box.select(5), 0);
        Check.equal("9 select 2", box.select(2), 5);
        Check.equal("9 select 7", box.select(7), 2);
        Check.equal("9 select 0", box.select(0), 7);
        Check.equal("9 select 0 again", box.select(0), 0);
        box.select(6);
        int[] wrongs = {-1, 8, 9, 64, Integer.MIN_VALUE, Integer.MAX_VALUE};
        for (int wrong : wrongs) {
            Check.argument("9 select " + wrong, () -> box.select(wrong));
        }
        Check.equal("9 nothing changed", box.engaged(), 6);
        PlanetaryGearbox empty = new PlanetaryGearbox();
        Check.equal("9 nothing of nothing", empty.select(0), 0);
        Check.argument("9 no element", () -> empty.select(1));
        PlanetaryGearbox full = new PlanetaryGearbox();
        for (int element = 0; element < 6; element++) {
            full.addBrake(element);
        }
        Check.equal("9 select all six", full.select(63), 0);
        Check.equal("9 all six", full.engaged(), 63);
        Check.argument("9 a seventh", () -> full.select(64));
    }

    private static void promise10() {
        PlanetaryGearbox box = box();
        box.engage(0);
        box.select(6);
        box.release(1);
        Check.isTrue("10 undo release", box.undo());
        Check.equal("10 before release", box.engaged(), 6);
        Check.isTrue("10 undo select", box.undo());
        Check.equal("10 before select", box.engaged(), 1);
        box.engage(2);
        Check.isTrue("10 undo the change after an undo", box.undo());
        Check.equal("10 before it", box.engaged(), 1);
        Check.isTrue("10 undo engage", box.undo());
        Check.equal("10 before engage", box.engaged(), 0);
        Check.isFalse("10 nothing left", box.undo());
        Check.equal("10 stays", box.engaged(), 0);
    }

    private static void promise10NoChanges() {
        PlanetaryGearbox box = box();
        box.engage(0);
        box.engage(0);
        box.release(1);
        box.select(1);
        Check.index("10 a call that throws", () -> box.engage(3));
        Check.argument("10 a call that throws", () -> box.select(8));
        box.addBrake(5);
        box.setCapacity(0, 7);
        box.save(0);
        Check.isTrue("10 only engage(0) was a change", box.undo());
        Check.equal("10 before it", box.engaged(), 0);
        Check.isFalse("10 nothing left", box.undo());
        Check.equal("10 elements stay", box.count(1), 4);
        Check.equal("10 capacities stay", box.setCapacity(0, 8), 7);
    }

    private static void promise10Limit() {
        PlanetaryGearbox box = box();
        for (int change = 1; change <= 27; change++) {
            box.select(change % 8);
        }
        for (int change = 27; change > 7; change--) {
            Check.isTrue("10 undo " + change, box.undo());
            Check.equal("10 before " + change, box.engaged(), (change - 1) % 8);
        }
        Check.isFalse("10 no more than 20", box.undo());
        Check.equal("10 stays", box.engaged(), 7);
        for (int change = 1; change <= 20; change++) {
            box.select(change % 2);
        }
        for (int change = 1; change <= 20; change++) {
            Check.isTrue("10 20 again", box.undo());
        }
        Check.equal("10 all undone", box.engaged(), 7);
        Check.isFalse("10 no more", box.undo());
    }

    private static void promise10Restore() {
        PlanetaryGearbox box = box();
        box.engage(0);
        box.save(0);
        box.engage(1);
        Check.state("10 a restore that throws", () -> box.restore(1));
        Check.isTrue("10 keeps the changes", box.undo());
        box.restore(0);
        Check.isFalse("10 none before restore", box.undo());
        box.engage(2);
        Check.isTrue("10 those after it", box.undo());
        Check.equal("10 as restored", box.engaged(), 1);
        Check.isFalse("10 none before restore", box.undo());
    }

    private static void promise11() {
        PlanetaryGearbox box = box();
        Check.equal("11 none", box.engaged(), 0);
        box.engage(2);
        Check.equal("11 one", box.engaged(), 4);
        box.engage(0);
        Check.equal("11 two", box.engaged(), 5);
        box.addBrake(0);
        Check.equal("11 a new one is not engaged", box.engaged(), 5);
    }

    private static void promise12() {
        PlanetaryGearbox box = box();
        for (int mask = 0; mask < 8; mask++) {
            box.select(mask);
            Check.equal("12 mask " + mask, box.brakesOnly() ? 1 : 0, (mask & 2) == 0 ? 1 : 0);
        }
        Check.isTrue("12 nothing", new PlanetaryGearbox().brakesOnly());
    }
}

/** Promises 1 to 6: a new object, addSet, addBrake, addClutch, setCapacity, count. */
public final class ConstructionTest {
    private static final int LEAST = Integer.MIN_VALUE;
    private static final int MOST = Integer.MAX_VALUE;

    public static void main(String[] args) {
        promise1();
        promise2();
        promise2Teeth();
        promise2Order();
        promise3();
        promise4();
        promise5();
        promise6();
        Check.finish();
    }

    private static void promise1() {
        PlanetaryGearbox box = new PlanetaryGearbox();
        Check.equal("1 sets", box.count(0), 0);
        Check.equal("1 elements", box.count(1), 0);
        Check.equal("1 gears", box.count(2), 0);
        Check.equal("1 engaged", box.engaged(), 0);
        Check.isFalse("1 undo", box.undo());
        Check.equal("1 state", box.state(), PlanetaryGearbox.NEUTRAL);
        Check.state("1 restore 0", () -> box.restore(0));
        Check.state("1 restore 1", () -> box.restore(1));
        Check.equal("1 NONE", PlanetaryGearbox.NONE, -1);
        Check.equal("1 DRIVING", PlanetaryGearbox.DRIVING, 0);
        Check.equal("1 STOPPED", PlanetaryGearbox.STOPPED, 1);
        Check.equal("1 NEUTRAL", PlanetaryGearbox.NEUTRAL, 2);
        Check.equal("1 BLOCKED", PlanetaryGearbox.BLOCKED, 3);
        box.addBrake(1);
        Check.equal("1 objects share nothing", new PlanetaryGearbox().count(1), 0);
    }

    private static void promise2() {
        PlanetaryGearbox box = new PlanetaryGearbox();
        Check.equal("2 first", box.addSet(0, 1, 2, 20, 40), 1);
        Check.equal("2 second", box.addSet(5, 4, 3, 10, 11), 2);
        Check.equal("2 same shafts again", box.addSet(0, 1, 2, 40, 100), 3);
        Check.state("2 fourth", () -> box.addSet(0, 1, 2, 20, 40));
        Check.equal("2 count", box.count(0), 3);
        int[] wrongShafts = {-1, 6, LEAST, MOST};
        for (int wrong : wrongShafts) {
            PlanetaryGearbox fresh = new PlanetaryGearbox();
            Check.index("2 sun " + wrong, () -> fresh.addSet(wrong, 1, 2, 20, 40));
            Check.index("2 ring " + wrong, () -> fresh.addSet(0, wrong, 2, 20, 40));
            Check.index("2 carrier " + wrong, () -> fresh.addSet(0, 1, wrong, 20, 40));
            Check.equal("2 nothing added", fresh.count(0), 0);
        }
        PlanetaryGearbox fresh = new PlanetaryGearbox();
        Check.argument("2 sun is ring", () -> fresh.addSet(3, 3, 1, 20, 40));
        Check.argument("2 sun is carrier", () -> fresh.addSet(3, 1, 3, 20, 40));
        Check.argument("2 ring is carrier", () -> fresh.addSet(1, 3, 3, 20, 40));
        Check.equal("2 nothing added", fresh.count(0), 0);
    }

    private static void promise2Teeth() {
        PlanetaryGearbox box = new PlanetaryGearbox();
        Check.argument("2 sun 9", () -> box.addSet(0, 1, 2, 9, 40));
        Check.argument("2 sun 41", () -> box.addSet(0, 1, 2, 41, 60));
        Check.argument("2 ring as sun", () -> box.addSet(0, 1, 2, 20, 20));
        Check.argument("2 ring smaller", () -> box.addSet(0, 1, 2, 20, 19));
        Check.argument("2 ring 101", () -> box.addSet(0, 1, 2, 20, 101));
        Check.argument("2 teeth least", () -> box.addSet(0, 1, 2, LEAST, 40));
        Check.argument("2 teeth most", () -> box.addSet(0, 1, 2, 20, MOST));
        Check.equal("2 sun 10, ring 11", box.addSet(0, 1, 2, 10, 11), 1);
        Check.equal("2 sun 40, ring 41", box.addSet(0, 1, 2, 40, 41), 2);
        Check.equal("2 sun 10, ring 100", box.addSet(0, 1, 2, 10, 100), 3);
    }

    private static void promise2Order() {
        PlanetaryGearbox box = new PlanetaryGearbox();
        Check.index("2 shaft before same", () -> box.addSet(6, 6, 6, 20, 40));
        Check.index("2 shaft before teeth", () -> box.addSet(0, 1, 6, 9, 9));
        for (int set = 0; set < 3; set++) {
            box.addSet(0, 1, 2, 20, 40);
        }
        Check.index("2 shaft before full", () -> box.addSet(0, -1, 2, 20, 40));
        Check.argument("2 same before full", () -> box.addSet(0, 0, 2, 20, 40));
        Check.argument("2 teeth before full", () -> box.addSet(0, 1, 2, 20, 20));
        Check.state("2 full", () -> box.addSet(0, 1, 2, 20, 40));
    }

    private static void promise3() {
        PlanetaryGearbox box = new PlanetaryGearbox();
        int[] wrongShafts = {-1, 6, LEAST, MOST};
        for (int wrong : wrongShafts) {
            Check.index("3 shaft " + wrong, () -> box.addBrake(wrong));
        }
        for (int shaft = 0; shaft < 6; shaft++) {
            Check.equal("3 brake " + shaft, box.addBrake(shaft), shaft);
            Check.equal("3 is not engaged", box.engaged(), 0);
        }
        Check.state("3 seventh", () -> box.addBrake(0));
        Check.index("3 shaft before full", () -> box.addBrake(6));
        Check.equal("3 count", box.count(1), 6);
    }

    private static void promise4() {
        PlanetaryGearbox box = new PlanetaryGearbox();
        int[] wrongShafts = {-1, 6, LEAST, MOST};
        for (int wrong : wrongShafts) {
            Check.index("4 first " + wrong, () -> box.addClutch(wrong, 0));
            Check.index("4 second " + wrong, () -> box.addClutch(0, wrong));
            Check.index("4 shaft before same " + wrong, () -> box.addClutch(wrong, wrong));
        }
        Check.argument("4 same", () -> box.addClutch(2, 2));
        for (int shaft = 0; shaft < 5; shaft++) {
            Check.equal("4 clutch " + shaft, box.addClutch(shaft, 5), shaft);
            Check.equal("4 is not engaged", box.engaged(), 0);
        }
        Check.equal("4 after a clutch, a brake", box.addBrake(0), 5);
        Check.state("4 seventh", () -> box.addClutch(0, 1));
        Check.index("4 shaft before full", () -> box.addClutch(6, 0));
        Check.argument("4 same before full", () -> box.addClutch(0, 0));
        Check.equal("4 count", box.count(1), 6);
    }

    private static void promise5() {
        PlanetaryGearbox box = new PlanetaryGearbox();
        Check.index("5 no element", () -> box.setCapacity(0, 5));
        box.addBrake(0);
        box.addClutch(0, 1);
        Check.equal("5 first of a brake", box.setCapacity(0, 1), 1000);
        Check.equal("5 first of a clutch", box.setCapacity(1, 10000), 1000);
        Check.equal("5 then", box.setCapacity(0, 77), 1);
        Check.equal("5 others stay", box.setCapacity(1, 10000), 10000);
        int[] wrongElements = {-1, 2, 6, LEAST, MOST};
        for (int wrong : wrongElements) {
            Check.index("5 element " + wrong, () -> box.setCapacity(wrong, 5));
            Check.index("5 element before capacity " + wrong, () -> box.setCapacity(wrong, 0));
        }
        int[] wrongCapacities = {0, -1, 10001, LEAST, MOST};
        for (int wrong : wrongCapacities) {
            Check.argument("5 capacity " + wrong, () -> box.setCapacity(0, wrong));
        }
        Check.equal("5 nothing changed", box.setCapacity(0, 5), 77);
    }

    private static void promise6() {
        PlanetaryGearbox box = new PlanetaryGearbox();
        box.addSet(0, 2, 1, 20, 40);
        box.addBrake(2);
        box.addBrake(3);
        box.addClutch(0, 1);
        Check.equal("6 sets", box.count(0), 1);
        Check.equal("6 elements", box.count(1), 3);
        Check.equal("6 gears", box.count(2), 2);
        box.addClutch(1, 2);
        Check.equal("6 gears after one more element", box.count(2), 3);
        box.addSet(0, 2, 1, 20, 60);
        Check.equal("6 gears after one more set", box.count(2), 1);
        int[] wrongs = {-1, 3, LEAST, MOST};
        for (int wrong : wrongs) {
            Check.argument("6 what " + wrong, () -> box.count(wrong));
        }
    }
}

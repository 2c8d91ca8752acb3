/** The three examples of the document. */
public final class ExamplesTest {
    public static void main(String[] args) {
        gearSetWithBrakeOnRing();
        twoGearsAndShift();
        brakeOnOutput();
        Check.finish();
    }

    private static void gearSetWithBrakeOnRing() {
        PlanetaryGearbox box = new PlanetaryGearbox();
        Check.equal("1 addSet", box.addSet(0, 2, 1, 20, 40), 1);
        Check.equal("1 addBrake", box.addBrake(2), 0);
        Check.equal("1 state", box.state(), 2);
        Check.isTrue("1 engage", box.engage(0));
        Check.equal("1 ratio", box.ratio(0), 3);
        Check.equal("1 speed", box.speed(1, 0), 1);
        Check.equal("1 speed", box.speed(1, 1), 3);
        Check.equal("1 torque", box.torque(0, 0), 2);
        Check.equal("1 outputTorque", box.outputTorque(0), -3);
        Check.equalFloat("1 ratioAsFloat", box.ratioAsFloat(), 3.0f);
        Check.equal("1 slipping", box.slipping(501), 1);
        Check.isTrue("1 undo", box.undo());
        Check.equal("1 state", box.state(), 2);
    }

    private static void twoGearsAndShift() {
        PlanetaryGearbox box = new PlanetaryGearbox();
        Check.equal("2 addSet", box.addSet(0, 2, 1, 20, 40), 1);
        Check.equal("2 addBrake", box.addBrake(2), 0);
        Check.equal("2 addClutch", box.addClutch(0, 1), 1);
        Check.equal("2 select", box.select(3), 0);
        Check.equal("2 state", box.state(), 3);
        Check.equal("2 count", box.count(2), 2);
        Check.equal("2 gear", box.gear(0), 2);
        Check.equal("2 gear", box.gear(1), 1);
        Check.equal("2 gearRatio", box.gearRatio(1, 0), 3);
        Check.equal("2 fewestShifts", box.fewestShifts(0, 1), 1);
        Check.equal("2 shift", box.shift(0, 1, 1), 1);
        Check.equalFloat("2 step", box.step(0), 3.0f);
        Check.state("2 speed", () -> box.speed(1, 0));
    }

    private static void brakeOnOutput() {
        PlanetaryGearbox box = new PlanetaryGearbox();
        Check.equal("3 addSet", box.addSet(0, 2, 1, 20, 40), 1);
        Check.argument("3 addSet", () -> box.addSet(0, 2, 2, 20, 40));
        Check.equal("3 addBrake", box.addBrake(1), 0);
        Check.isTrue("3 engage", box.engage(0));
        Check.equal("3 state", box.state(), 1);
        Check.equal("3 speed", box.speed(1, 0), 0);
        Check.equal("3 speed", box.speed(2, 0), -1);
        Check.equal("3 speed", box.speed(2, 1), 2);
        Check.state("3 ratio", () -> box.ratio(0));
        Check.isTrue("3 brakesOnly", box.brakesOnly());
        Check.index("3 torque", () -> box.torque(1, 0));
    }
}

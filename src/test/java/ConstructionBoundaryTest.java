/** The boundaries that promises 1 to 6 name: a new object, addSet to count. */
public final class ConstructionBoundaryTest {
    private static final int LEAST = Integer.MIN_VALUE;
    private static final int MOST = Integer.MAX_VALUE;
    private static final int[] WRONG_SHAFTS = {-1, 6, 31, 32, LEAST, MOST};

    public static void main(String[] args) {
        promise1WithoutSetsAndElements();
        promise1EveryQuestion();
        promise2SunTeeth10To40();
        promise2RingGreaterThanSun();
        promise2RingAtMost100();
        promise2ReturnsNumberOfSets();
        promise2ShaftNot0To5();
        promise2SameShafts();
        promise2TeethOutOfRange();
        promise2ThreeSets();
        promise2Order();
        promise3ReturnsNumber();
        promise3NotEngaged();
        promise3ShaftNot0To5();
        promise3SixElements();
        promise3Order();
        promise4ReturnsNumber();
        promise4NotEngaged();
        promise4ShaftNot0To5();
        promise4SameShafts();
        promise4SixElements();
        promise4Order();
        promise5Capacity1To10000();
        promise5PreviousCapacity();
        promise5NoSuchElement();
        promise5CapacityOutOfRange();
        promise5Order();
        promise6Numbers();
        promise6WhatNot0To2();
        Check.finish();
    }

    /** Promise 1: "Creates a gearbox without gear sets and elements." */
    private static void promise1WithoutSetsAndElements() {
        PlanetaryGearbox box = Boxes.empty();
        Check.equal("1 no sets", box.count(0), 0);
        Check.equal("1 no elements", box.count(1), 0);
        Check.equal("1 no gears", box.count(2), 0);
    }

    /** Promise 1, the same sentence: what the other promises answer where there is nothing. */
    private static void promise1EveryQuestion() {
        PlanetaryGearbox box = Boxes.empty();
        Check.equal("1 select of nothing", box.select(0), 0);
        Check.isFalse("1 undo", box.undo());
        Check.equal("1 engaged", box.engaged(), 0);
        Check.isTrue("1 brakesOnly", box.brakesOnly());
        Check.equal("1 state", box.state(), PlanetaryGearbox.NEUTRAL);
        Check.equal("1 speed of the input", box.speed(0, 0), 1);
        Check.equal("1 slipping", box.slipping(10000), 0);
        Check.equal("1 indexOf nothing", box.indexOf(0), PlanetaryGearbox.NONE);
        Refusal.index("1 engage", Boxes::empty, x -> x.engage(0));
        Refusal.index("1 release", Boxes::empty, x -> x.release(0));
        Refusal.argument("1 select", Boxes::empty, x -> x.select(1));
        Refusal.state("1 speed of the output", Boxes::empty, x -> x.speed(1, 0));
        Refusal.state("1 ratio", Boxes::empty, x -> x.ratio(0));
        Refusal.state("1 ratioAsFloat", Boxes::empty, x -> x.ratioAsFloat());
        Refusal.state("1 outputTorque", Boxes::empty, x -> x.outputTorque(0));
        Refusal.index("1 torque", Boxes::empty, x -> x.torque(0, 0));
        Refusal.state("1 greatestTorque", Boxes::empty, x -> x.greatestTorque());
        Refusal.index("1 gear", Boxes::empty, x -> x.gear(0));
        Refusal.argument("1 indexOf", Boxes::empty, x -> x.indexOf(1));
        Refusal.index("1 gearRatio", Boxes::empty, x -> x.gearRatio(0, 0));
        Refusal.index("1 step", Boxes::empty, x -> x.step(0));
        Refusal.index("1 fewestShifts", Boxes::empty, x -> x.fewestShifts(0, 0));
        Refusal.index("1 shift", Boxes::empty, x -> x.shift(0, 0, 0));
        Refusal.state("1 restore", Boxes::empty, x -> x.restore(0));
    }

    /** Promise 2: "sunTeeth: number of teeth of the sun, 10 to 40". */
    private static void promise2SunTeeth10To40() {
        Check.equal("2 sun 10", Boxes.empty().addSet(0, 1, 2, 10, 100), 1);
        Check.equal("2 sun 40", Boxes.empty().addSet(0, 1, 2, 40, 100), 1);
        Refusal.argument("2 sun 9", Boxes::empty, x -> x.addSet(0, 1, 2, 9, 100));
        Refusal.argument("2 sun 41", Boxes::empty, x -> x.addSet(0, 1, 2, 41, 100));
    }

    /** Promise 2: "ringTeeth: number of teeth of the ring, greater than sunTeeth". */
    private static void promise2RingGreaterThanSun() {
        for (int sun = 10; sun <= 40; sun++) {
            int teeth = sun;
            Check.equal("2 ring " + (sun + 1), Boxes.empty().addSet(0, 1, 2, teeth, teeth + 1), 1);
            Refusal.argument("2 ring " + sun, Boxes::empty, x -> x.addSet(0, 1, 2, teeth, teeth));
        }
        Refusal.argument("2 ring 10, sun 40", Boxes::empty, x -> x.addSet(0, 1, 2, 40, 10));
    }

    /** Promise 2: "ringTeeth: number of teeth of the ring, [..] at most 100". */
    private static void promise2RingAtMost100() {
        Check.equal("2 ring 100", Boxes.empty().addSet(0, 1, 2, 20, 100), 1);
        Refusal.argument("2 ring 101", Boxes::empty, x -> x.addSet(0, 1, 2, 20, 101));
    }

    /** Promise 2: "Returns the number of gear sets then.", from the first to the last. */
    private static void promise2ReturnsNumberOfSets() {
        PlanetaryGearbox box = Boxes.empty();
        for (int set = 1; set <= 3; set++) {
            Check.equal("2 set " + set, box.addSet(0, 1, 2, 20, 40), set);
        }
    }

    /** Promise 2: "Throws IndexOutOfBoundsException if a shaft is not 0 to 5". */
    private static void promise2ShaftNot0To5() {
        for (int wrong : WRONG_SHAFTS) {
            Refusal.index("2 sun on " + wrong, Boxes::empty, x -> x.addSet(wrong, 1, 2, 20, 40));
            Refusal.index("2 ring on " + wrong, Boxes::empty, x -> x.addSet(0, wrong, 2, 20, 40));
            Refusal.index("2 carrier on " + wrong, Boxes::empty,
                    x -> x.addSet(0, 1, wrong, 20, 40));
        }
        Check.equal("2 shafts 0 and 5", Boxes.empty().addSet(0, 5, 3, 20, 40), 1);
    }

    /** Promise 2: "Throws IllegalArgumentException if two of the shafts are the same". */
    private static void promise2SameShafts() {
        for (int same = 0; same < 6; same++) {
            int shaft = same;
            int other = (same + 1) % 6;
            Refusal.argument("2 sun is ring", Boxes::empty,
                    x -> x.addSet(shaft, shaft, other, 20, 40));
            Refusal.argument("2 sun is carrier", Boxes::empty,
                    x -> x.addSet(shaft, other, shaft, 20, 40));
            Refusal.argument("2 ring is carrier", Boxes::empty,
                    x -> x.addSet(other, shaft, shaft, 20, 40));
            Refusal.argument("2 all the same", Boxes::empty,
                    x -> x.addSet(shaft, shaft, shaft, 20, 40));
        }
    }

    /** Promise 2: "Throws IllegalArgumentException if [..] a number of teeth is out of range". */
    private static void promise2TeethOutOfRange() {
        int[] wrongSuns = {LEAST, -20, 0, MOST - 1, MOST};
        for (int wrong : wrongSuns) {
            Refusal.argument("2 sun " + wrong, Boxes::empty, x -> x.addSet(0, 1, 2, wrong, 100));
            Refusal.argument("2 sun before ring " + wrong, Boxes::empty,
                    x -> x.addSet(0, 1, 2, wrong, wrong + 1));
        }
        int[] wrongRings = {LEAST, -40, 0, MOST};
        for (int wrong : wrongRings) {
            Refusal.argument("2 ring " + wrong, Boxes::empty, x -> x.addSet(0, 1, 2, 20, wrong));
        }
    }

    /** Promise 2: "Throws IllegalStateException if there are 3 gear sets". */
    private static void promise2ThreeSets() {
        Refusal.state("2 full", Boxes::full, x -> x.addSet(0, 1, 2, 20, 40));
        Refusal.state("2 three sets", () -> Boxes.setsAlone(3), x -> x.addSet(0, 1, 2, 20, 40));
    }

    /** Promise 2: the order in which the exceptions are checked. */
    private static void promise2Order() {
        Refusal.index("2 shaft before all", Boxes::full, x -> x.addSet(6, 6, 1, 9, 101));
        Refusal.index("2 last shaft before all", Boxes::full, x -> x.addSet(0, 0, -1, 9, 101));
        Refusal.index("2 shaft before teeth", Boxes::empty, x -> x.addSet(0, 1, 6, 9, 40));
        Refusal.argument("2 same before full", Boxes::full, x -> x.addSet(0, 0, 1, 20, 40));
        Refusal.argument("2 sun before full", Boxes::full, x -> x.addSet(0, 1, 2, 9, 40));
        Refusal.argument("2 ring before full", Boxes::full, x -> x.addSet(0, 1, 2, 20, 101));
    }

    /** Promise 3: "Returns the number of the element.", from the first to the last. */
    private static void promise3ReturnsNumber() {
        PlanetaryGearbox box = Boxes.empty();
        for (int element = 0; element < 6; element++) {
            Check.equal("3 brake " + element, box.addBrake(5 - element), element);
        }
    }

    /** Promise 3: "Adds a brake, which is not engaged." */
    private static void promise3NotEngaged() {
        PlanetaryGearbox box = Boxes.small(15);
        box.addBrake(5);
        Check.equal("3 not engaged", box.engaged(), 15);
    }

    /** Promise 3: "Throws IndexOutOfBoundsException if the shaft is not 0 to 5". */
    private static void promise3ShaftNot0To5() {
        for (int wrong : WRONG_SHAFTS) {
            Refusal.index("3 shaft " + wrong, Boxes::empty, x -> x.addBrake(wrong));
        }
        Check.equal("3 shaft 0", Boxes.empty().addBrake(0), 0);
        Check.equal("3 shaft 5", Boxes.empty().addBrake(5), 0);
    }

    /** Promise 3: "Throws IllegalStateException if there are 6 elements". */
    private static void promise3SixElements() {
        Check.equal("3 the sixth", Boxes.brakesAlone(5).addBrake(5), 5);
        Refusal.state("3 the seventh", Boxes::full, x -> x.addBrake(5));
    }

    /** Promise 3: the order in which the exceptions are checked. */
    private static void promise3Order() {
        Refusal.index("3 shaft before full", Boxes::full, x -> x.addBrake(6));
        Refusal.index("3 shaft before full", Boxes::full, x -> x.addBrake(-1));
    }

    /** Promise 4: "Returns the number of the element.", from the first to the last. */
    private static void promise4ReturnsNumber() {
        PlanetaryGearbox box = Boxes.empty();
        for (int element = 0; element < 6; element++) {
            Check.equal("4 clutch " + element, box.addClutch(element, (element + 1) % 6), element);
        }
    }

    /** Promise 4: "Adds a clutch, which is not engaged." */
    private static void promise4NotEngaged() {
        PlanetaryGearbox box = Boxes.small(15);
        box.addClutch(4, 5);
        Check.equal("4 not engaged", box.engaged(), 15);
    }

    /** Promise 4: "Throws IndexOutOfBoundsException if a shaft is not 0 to 5". */
    private static void promise4ShaftNot0To5() {
        for (int wrong : WRONG_SHAFTS) {
            Refusal.index("4 first " + wrong, Boxes::empty, x -> x.addClutch(wrong, 0));
            Refusal.index("4 second " + wrong, Boxes::empty, x -> x.addClutch(0, wrong));
        }
        Check.equal("4 shafts 0 and 5", Boxes.empty().addClutch(0, 5), 0);
        Check.equal("4 shafts 5 and 0", Boxes.empty().addClutch(5, 0), 0);
    }

    /** Promise 4: "Throws IllegalArgumentException if both shafts are the same". */
    private static void promise4SameShafts() {
        for (int same = 0; same < 6; same++) {
            int shaft = same;
            Refusal.argument("4 both " + same, Boxes::empty, x -> x.addClutch(shaft, shaft));
        }
    }

    /** Promise 4: "Throws IllegalStateException if there are 6 elements". */
    private static void promise4SixElements() {
        Check.equal("4 the sixth", Boxes.brakesAlone(5).addClutch(0, 5), 5);
        Refusal.state("4 the seventh", Boxes::full, x -> x.addClutch(0, 5));
    }

    /** Promise 4: the order in which the exceptions are checked. */
    private static void promise4Order() {
        Refusal.index("4 first shaft before same and full", Boxes::full, x -> x.addClutch(6, 6));
        Refusal.index("4 shaft before same", Boxes::empty, x -> x.addClutch(-1, -1));
        Refusal.index("4 second shaft before full", Boxes::full, x -> x.addClutch(0, 6));
        Refusal.argument("4 same before full", Boxes::full, x -> x.addClutch(5, 5));
    }

    /** Promise 5: "capacity: new capacity, 1 to 10000". */
    private static void promise5Capacity1To10000() {
        PlanetaryGearbox box = Boxes.full();
        for (int element = 0; element < 6; element++) {
            box.setCapacity(element, 1);
            Check.equal("5 capacity 1", box.setCapacity(element, 10000), 1);
            Check.equal("5 capacity 10000", box.setCapacity(element, 10000), 10000);
        }
        Refusal.argument("5 capacity 0", Boxes::full, x -> x.setCapacity(5, 0));
        Refusal.argument("5 capacity 10001", Boxes::full, x -> x.setCapacity(5, 10001));
    }

    /** Promise 5: "Returns the previous capacity.", the first time 1000. */
    private static void promise5PreviousCapacity() {
        PlanetaryGearbox box = Boxes.brakesAlone(6);
        Check.equal("5 the first previous one", box.setCapacity(5, 3), 1000);
        Check.equal("5 the next one", box.setCapacity(5, 3), 3);
        Check.equal("5 of another element", box.setCapacity(0, 3), 1000);
    }

    /** Promise 5: "Throws IndexOutOfBoundsException if there is no such element". */
    private static void promise5NoSuchElement() {
        int[] wrongElements = {-1, 4, 5, 6, LEAST, MOST};
        for (int wrong : wrongElements) {
            Refusal.index("5 element " + wrong, () -> Boxes.small(1), x -> x.setCapacity(wrong, 5));
        }
        Refusal.index("5 none at all", Boxes::empty, x -> x.setCapacity(0, 5));
        Refusal.index("5 element 6 of six", Boxes::full, x -> x.setCapacity(6, 5));
    }

    /** Promise 5: "Throws IllegalArgumentException if the capacity is out of range". */
    private static void promise5CapacityOutOfRange() {
        int[] wrongCapacities = {LEAST, -1, 0, 10001, MOST};
        for (int wrong : wrongCapacities) {
            Refusal.argument("5 capacity " + wrong, () -> Boxes.small(1),
                    x -> x.setCapacity(0, wrong));
        }
    }

    /** Promise 5: the order in which the exceptions are checked. */
    private static void promise5Order() {
        Refusal.index("5 element before capacity", Boxes::full, x -> x.setCapacity(6, 0));
        Refusal.index("5 element before capacity", Boxes::empty, x -> x.setCapacity(0, 10001));
    }

    /** Promise 6: "0 for the number of gear sets, 1 for [..] elements, 2 for [..] gears". */
    private static void promise6Numbers() {
        for (int what = 0; what < 3; what++) {
            Check.equal("6 nothing", Boxes.empty().count(what), 0);
        }
        Check.equal("6 three sets", Boxes.full().count(0), 3);
        Check.equal("6 six elements", Boxes.full().count(1), 6);
        Check.equal("6 two gears", Boxes.small(1).count(2), 2);
    }

    /** Promise 6: "Throws IllegalArgumentException if what is not 0 to 2". */
    private static void promise6WhatNot0To2() {
        int[] wrongs = {-1, 3, LEAST, MOST};
        for (int wrong : wrongs) {
            Refusal.argument("6 what " + wrong, Boxes::full, x -> x.count(wrong));
            Refusal.argument("6 what of nothing " + wrong, Boxes::empty, x -> x.count(wrong));
        }
    }
}

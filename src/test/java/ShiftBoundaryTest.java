/** The boundaries that the section GEARS and promises 25 and 26 name: fewestShifts, shift. */
public final class ShiftBoundaryTest {
    private static final int LEAST = Integer.MIN_VALUE;
    private static final int MOST = Integer.MAX_VALUE;
    private static final int NONE = PlanetaryGearbox.NONE;

    public static void main(String[] args) {
        neighbours();
        promise25PossiblyTheSame();
        promise25Impossible();
        promise25Fewest();
        promise25NoSuchGear();
        promise26FirstAndLast();
        promise26LexicographicallySmallest();
        promise26PossiblyTheSame();
        promise26NoSuchSequence();
        promise26NoSuchIndex();
        promise26NoSuchGear();
        Check.finish();
    }

    private static PlanetaryGearbox twoGears() {
        return Boxes.small(Boxes.SMALL_BLOCKED);
    }

    /** Gear 0 has element 0, gear 1 has 1 and 2, gear 2 has 3, 4 and 5; the ratios are all 1. */
    private static PlanetaryGearbox apart() {
        PlanetaryGearbox box = Boxes.empty();
        box.addClutch(0, 1);
        box.addClutch(0, 2);
        box.addClutch(2, 1);
        box.addClutch(0, 3);
        box.addClutch(3, 4);
        box.addClutch(4, 1);
        return box;
    }

    /** Twelve gears with the ratio 1: gear 0 alone, and from 5 to 6 three shifts at least. */
    private static PlanetaryGearbox twelveGears() {
        PlanetaryGearbox box = new PlanetaryGearbox();
        box.addSet(1, 2, 3, 20, 40);
        box.addSet(5, 0, 2, 20, 80);
        box.addClutch(4, 2);
        box.addClutch(4, 1);
        box.addClutch(3, 4);
        box.addClutch(4, 0);
        box.addClutch(0, 2);
        box.addClutch(5, 4);
        return box;
    }

    /** GEARS: "by releasing one element and engaging another one": not two, not one for two. */
    private static void neighbours() {
        PlanetaryGearbox box = twelveGears();
        int[] masks = {10, 13, 19, 21, 22, 28, 35, 37, 38, 44, 50, 52};
        for (int from = 0; from < masks.length; from++) {
            Check.equal("gear " + from, box.gear(from), masks[from]);
            for (int to = 0; to < masks.length; to++) {
                int released = Integer.bitCount(masks[from] & ~masks[to]);
                int engaged = Integer.bitCount(masks[to] & ~masks[from]);
                Check.equal("neighbours " + from + " and " + to,
                        box.fewestShifts(from, to) == 1 ? 1 : 0,
                        released == 1 && engaged == 1 ? 1 : 0);
            }
        }
    }

    /** Promise 25: "to: number of the last gear, possibly the same". */
    private static void promise25PossiblyTheSame() {
        PlanetaryGearbox box = twelveGears();
        for (int gear = 0; gear < 12; gear++) {
            Check.equal("25 from and to " + gear, box.fewestShifts(gear, gear), 0);
        }
    }

    /** Promise 25: "or NONE if it is impossible". */
    private static void promise25Impossible() {
        PlanetaryGearbox box = apart();
        Check.equal("25 gears", box.count(2), 3);
        for (int from = 0; from < 3; from++) {
            for (int to = 0; to < 3; to++) {
                Check.equal("25 " + from + " to " + to, box.fewestShifts(from, to),
                        from == to ? 0 : NONE);
            }
        }
        PlanetaryGearbox twelve = twelveGears();
        for (int gear = 1; gear < 12; gear++) {
            Check.equal("25 from the gear alone to " + gear, twelve.fewestShifts(0, gear), NONE);
            Check.equal("25 to the gear alone from " + gear, twelve.fewestShifts(gear, 0), NONE);
        }
    }

    /** Promise 25: "Returns the fewest shifts": one, two, three. */
    private static void promise25Fewest() {
        PlanetaryGearbox box = twelveGears();
        Check.equal("25 one", box.fewestShifts(5, 1), 1);
        Check.equal("25 two", box.fewestShifts(1, 6), 2);
        Check.equal("25 three", box.fewestShifts(5, 6), 3);
        Check.equal("25 three back", box.fewestShifts(6, 5), 3);
        Check.equal("25 from the last", box.fewestShifts(11, 1), 2);
        Check.equal("25 from the first", twoGears().fewestShifts(0, 1), 1);
        Check.equal("25 to the first", twoGears().fewestShifts(1, 0), 1);
    }

    /** Promise 25: "Throws IndexOutOfBoundsException if one of the gears does not exist". */
    private static void promise25NoSuchGear() {
        int[] wrongs = {LEAST, -1, 2, 64, MOST};
        for (int wrong : wrongs) {
            Refusal.index("25 from " + wrong, ShiftBoundaryTest::twoGears,
                    x -> x.fewestShifts(wrong, 0));
            Refusal.index("25 to " + wrong, ShiftBoundaryTest::twoGears,
                    x -> x.fewestShifts(1, wrong));
            Refusal.index("25 both " + wrong, ShiftBoundaryTest::twoGears,
                    x -> x.fewestShifts(wrong, wrong));
        }
        Refusal.index("25 none at all", Boxes::empty, x -> x.fewestShifts(0, 0));
        Check.equal("25 the last gears there are", twoGears().fewestShifts(1, 0), 1);
    }

    /** Promise 26: "0 for the first gear, fewestShifts(from, to) for the last one". */
    private static void promise26FirstAndLast() {
        PlanetaryGearbox box = twelveGears();
        for (int from = 1; from < 12; from++) {
            for (int to = 1; to < 12; to += 5) {
                int shifts = box.fewestShifts(from, to);
                Check.equal("26 first from " + from, box.shift(from, to, 0), from);
                Check.equal("26 last from " + from, box.shift(from, to, shifts), to);
            }
        }
        Check.equal("26 from the first of two", twoGears().shift(0, 1, 0), 0);
        Check.equal("26 to the last of two", twoGears().shift(0, 1, 1), 1);
    }

    /** Promise 26: "the one whose sequence of gear numbers is lexicographically smallest". */
    private static void promise26LexicographicallySmallest() {
        PlanetaryGearbox box = twelveGears();
        int[] there = {5, 1, 7, 6};
        int[] back = {6, 2, 3, 5};
        for (int index = 0; index < 4; index++) {
            Check.equal("26 not 5 3 2 6, index " + index, box.shift(5, 6, index), there[index]);
            Check.equal("26 not 6 7 1 5, index " + index, box.shift(6, 5, index), back[index]);
        }
    }

    /** Promise 26: from a gear to itself the first gear is the last one. */
    private static void promise26PossiblyTheSame() {
        PlanetaryGearbox box = twelveGears();
        for (int gear = 0; gear < 12; gear++) {
            Check.equal("26 index 0", box.shift(gear, gear, 0), gear);
            Check.equal("26 index 1", box.shift(gear, gear, 1), NONE);
            Check.equal("26 index -1", box.shift(gear, gear, -1), NONE);
        }
    }

    /** Promise 26: "or NONE if there is no such sequence": not even its first gear. */
    private static void promise26NoSuchSequence() {
        PlanetaryGearbox box = apart();
        int[] indexes = {LEAST, -2, -1, 0, 1, 2, MOST};
        for (int index : indexes) {
            Check.equal("26 no sequence, index " + index, box.shift(0, 1, index), NONE);
            Check.equal("26 no sequence back, index " + index, box.shift(2, 0, index), NONE);
        }
    }

    /** Promise 26: "or no such index": before the first and behind the last. */
    private static void promise26NoSuchIndex() {
        PlanetaryGearbox box = twelveGears();
        int[] wrongs = {LEAST, -2, -1, 4, 5, 64, MOST};
        for (int wrong : wrongs) {
            Check.equal("26 index " + wrong, box.shift(5, 6, wrong), NONE);
        }
        Check.equal("26 behind a single shift", box.shift(5, 1, 2), NONE);
    }

    /** Promise 26: "Throws IndexOutOfBoundsException if one of the gears does not exist". */
    private static void promise26NoSuchGear() {
        int[] wrongs = {LEAST, -1, 2, 64, MOST};
        for (int wrong : wrongs) {
            Refusal.index("26 from " + wrong, ShiftBoundaryTest::twoGears, x -> x.shift(wrong, 0, 0));
            Refusal.index("26 to " + wrong, ShiftBoundaryTest::twoGears, x -> x.shift(1, wrong, 0));
            Refusal.index("26 both " + wrong, ShiftBoundaryTest::twoGears,
                    x -> x.shift(wrong, wrong, -1));
            Refusal.index("26 before the index " + wrong, ShiftBoundaryTest::twoGears,
                    x -> x.shift(0, wrong, wrong));
        }
        Refusal.index("26 none at all", Boxes::empty, x -> x.shift(0, 0, 0));
        Check.equal("26 the last gears there are", twoGears().shift(1, 0, 1), 0);
    }
}

/** Promises 25 and 26: fewestShifts, shift. */
public final class ShiftTest {
    public static void main(String[] args) {
        neighboursAndLongerWays();
        smallestOfSeveralWays();
        noWay();
        wrongGears();
        Check.finish();
    }

    /** The gears 12, 3, 9, 6 form a ring: 12 and 3 are no neighbours, nor are 9 and 6. */
    private static PlanetaryGearbox ring() {
        PlanetaryGearbox box = new PlanetaryGearbox();
        box.addSet(0, 2, 1, 30, 60);
        box.addSet(2, 3, 4, 20, 50);
        box.addClutch(0, 3);
        box.addBrake(4);
        box.addBrake(3);
        box.addClutch(1, 4);
        return box;
    }

    private static void neighboursAndLongerWays() {
        PlanetaryGearbox box = ring();
        int[][] due = {{0, 2, 1, 1}, {2, 0, 1, 1}, {1, 1, 0, 2}, {1, 1, 2, 0}};
        for (int from = 0; from < 4; from++) {
            for (int to = 0; to < 4; to++) {
                Check.equal("25 " + from + " to " + to, box.fewestShifts(from, to), due[from][to]);
                Check.equal("26 first gear", box.shift(from, to, 0), from);
                Check.equal("26 last gear", box.shift(from, to, due[from][to]), to);
                Check.equal("26 behind it", box.shift(from, to, due[from][to] + 1), -1);
                Check.equal("26 before it", box.shift(from, to, -1), -1);
            }
        }
        Check.equal("26 most", box.shift(0, 1, Integer.MAX_VALUE), -1);
        Check.equal("26 least", box.shift(0, 1, Integer.MIN_VALUE), -1);
    }

    private static void smallestOfSeveralWays() {
        PlanetaryGearbox box = ring();
        Check.equal("26 from 0 to 1 by 2, not 3", box.shift(0, 1, 1), 2);
        Check.equal("26 from 1 to 0 by 2, not 3", box.shift(1, 0, 1), 2);
        Check.equal("26 from 2 to 3 by 0, not 1", box.shift(2, 3, 1), 0);
        Check.equal("26 from 3 to 2 by 0, not 1", box.shift(3, 2, 1), 0);
    }

    /** Gear 1 needs one element, gear 6 two others: no shift leads from one to the other. */
    private static void noWay() {
        PlanetaryGearbox box = new PlanetaryGearbox();
        box.addSet(0, 2, 1, 20, 40);
        box.addBrake(2);
        box.addClutch(0, 3);
        box.addClutch(3, 1);
        Check.equal("25 gears", box.count(2), 2);
        Check.equal("25 none", box.fewestShifts(0, 1), PlanetaryGearbox.NONE);
        Check.equal("25 none back", box.fewestShifts(1, 0), PlanetaryGearbox.NONE);
        Check.equal("25 to itself", box.fewestShifts(1, 1), 0);
        for (int index = -2; index < 3; index++) {
            Check.equal("26 no sequence " + index, box.shift(0, 1, index), PlanetaryGearbox.NONE);
        }
    }

    private static void wrongGears() {
        PlanetaryGearbox box = ring();
        int[] wrongs = {-1, 4, 64, Integer.MIN_VALUE, Integer.MAX_VALUE};
        for (int wrong : wrongs) {
            Check.index("25 from " + wrong, () -> box.fewestShifts(wrong, 0));
            Check.index("25 to " + wrong, () -> box.fewestShifts(0, wrong));
            Check.index("25 both " + wrong, () -> box.fewestShifts(wrong, wrong));
            Check.index("26 from " + wrong, () -> box.shift(wrong, 0, 0));
            Check.index("26 to " + wrong, () -> box.shift(0, wrong, 0));
            Check.index("26 before the index " + wrong, () -> box.shift(0, wrong, -1));
        }
        PlanetaryGearbox empty = new PlanetaryGearbox();
        Check.index("25 no gear", () -> empty.fewestShifts(0, 0));
        Check.index("26 no gear", () -> empty.shift(0, 0, 0));
    }
}

/** The boundaries that promises 7 to 12 name: engage to brakesOnly. */
public final class ElementBoundaryTest {
    private static final int LEAST = Integer.MIN_VALUE;
    private static final int MOST = Integer.MAX_VALUE;
    /** A shift by 32 or by -32 is one by 0: these would be element 0. */
    private static final int[] WRONG_ELEMENTS = {-32, -1, 4, 5, 6, 31, 32, LEAST, MOST};

    public static void main(String[] args) {
        promise7TrueIfNotEngagedBefore();
        promise7NoSuchElement();
        promise8TrueIfEngagedBefore();
        promise8NoSuchElement();
        promise9ExactlyTheMask();
        promise9MaskBefore();
        promise9Negative();
        promise9ElementThatDoesNotExist();
        promise10LatestNotUndone();
        promise10OtherElementsEngaged();
        promise10SameElementsIsNoChange();
        promise10RefusedIsNoChange();
        promise10Latest20();
        promise10Latest20AfterUndoing();
        promise10RestoreForgets();
        promise10RefusedRestoreForgetsNothing();
        promise10FalseIfThereIsNone();
        promise11Mask();
        promise12NoClutchEngaged();
        Check.finish();
    }

    /** Promise 7: "Returns true if it was not engaged before." */
    private static void promise7TrueIfNotEngagedBefore() {
        for (int element = 0; element < 6; element++) {
            PlanetaryGearbox box = Boxes.brakesAlone(6);
            box.select(63 - (1 << element));
            Check.isTrue("7 not engaged before: " + element, box.engage(element));
            Check.equal("7 engaged then: " + element, box.engaged(), 63);
            Check.isFalse("7 engaged before: " + element, box.engage(element));
            Check.equal("7 engaged still: " + element, box.engaged(), 63);
        }
    }

    /** Promise 7: "Throws IndexOutOfBoundsException if there is no such element". */
    private static void promise7NoSuchElement() {
        for (int wrong : WRONG_ELEMENTS) {
            Refusal.index("7 element " + wrong, () -> Boxes.small(6), x -> x.engage(wrong));
        }
        Refusal.index("7 none at all", Boxes::empty, x -> x.engage(0));
        Refusal.index("7 element 6 of six", Boxes::full, x -> x.engage(6));
    }

    /** Promise 8: "Returns true if it was engaged before." */
    private static void promise8TrueIfEngagedBefore() {
        for (int element = 0; element < 6; element++) {
            PlanetaryGearbox box = Boxes.brakesAlone(6);
            box.select(63);
            Check.isTrue("8 engaged before: " + element, box.release(element));
            Check.equal("8 released then: " + element, box.engaged(), 63 - (1 << element));
            Check.isFalse("8 not engaged before: " + element, box.release(element));
            Check.equal("8 released still: " + element, box.engaged(), 63 - (1 << element));
        }
    }

    /** Promise 8: "Throws IndexOutOfBoundsException if there is no such element". */
    private static void promise8NoSuchElement() {
        for (int wrong : WRONG_ELEMENTS) {
            Refusal.index("8 element " + wrong, () -> Boxes.small(7), x -> x.release(wrong));
        }
        Refusal.index("8 none at all", Boxes::empty, x -> x.release(0));
        Refusal.index("8 element 6 of six", Boxes::full, x -> x.release(6));
    }

    /** Promise 9: "Engages exactly the elements of a mask and releases all others.": none, all. */
    private static void promise9ExactlyTheMask() {
        PlanetaryGearbox box = Boxes.brakesAlone(6);
        box.select(63);
        Check.equal("9 all", box.engaged(), 63);
        box.select(32);
        Check.equal("9 the last alone", box.engaged(), 32);
        box.select(1);
        Check.equal("9 the first alone", box.engaged(), 1);
        box.select(0);
        Check.equal("9 none", box.engaged(), 0);
        PlanetaryGearbox empty = Boxes.empty();
        empty.select(0);
        Check.equal("9 none of none", empty.engaged(), 0);
    }

    /** Promise 9: "Returns the mask of the elements that were engaged before." */
    private static void promise9MaskBefore() {
        PlanetaryGearbox box = Boxes.brakesAlone(6);
        Check.equal("9 none before", box.select(63), 0);
        Check.equal("9 all before", box.select(63), 63);
        Check.equal("9 all before, none then", box.select(0), 63);
        Check.equal("9 none before and then", box.select(0), 0);
        Check.equal("9 none of none", Boxes.empty().select(0), 0);
    }

    /** Promise 9: "Throws IllegalArgumentException if the mask is negative". */
    private static void promise9Negative() {
        int[] wrongs = {-1, -2, -64, LEAST, LEAST + 1};
        for (int wrong : wrongs) {
            Refusal.argument("9 small, mask " + wrong, () -> Boxes.small(2), x -> x.select(wrong));
            Refusal.argument("9 full, mask " + wrong, Boxes::full, x -> x.select(wrong));
            Refusal.argument("9 empty, mask " + wrong, Boxes::empty, x -> x.select(wrong));
        }
    }

    /** Promise 9: "Throws [..] if the mask [..] contains an element that does not exist". */
    private static void promise9ElementThatDoesNotExist() {
        for (int element = 4; element < 31; element++) {
            int wrong = 1 << element | 1;
            Refusal.argument("9 element " + element, () -> Boxes.small(2), x -> x.select(wrong));
        }
        Refusal.argument("9 a seventh", Boxes::full, x -> x.select(64));
        Refusal.argument("9 one of none", Boxes::empty, x -> x.select(1));
        Refusal.argument("9 most", Boxes::full, x -> x.select(MOST));
        Check.equal("9 the last one there is", Boxes.small(2).select(8), 2);
    }

    /** Promise 10: "Undoes the latest change of the engaged elements that has not been undone". */
    private static void promise10LatestNotUndone() {
        PlanetaryGearbox box = Boxes.brakesAlone(3);
        box.engage(0);
        box.select(6);
        box.release(1);
        Check.isTrue("10 the release", box.undo());
        Check.equal("10 as before the release", box.engaged(), 6);
        box.engage(0);
        Check.isTrue("10 the engage after an undo", box.undo());
        Check.equal("10 as before it", box.engaged(), 6);
        Check.isTrue("10 then the select", box.undo());
        Check.equal("10 as before the select", box.engaged(), 1);
        Check.isTrue("10 then the first engage", box.undo());
        Check.equal("10 as before all", box.engaged(), 0);
    }

    /** Promise 10: "is a change if other elements are engaged after it than before it". */
    private static void promise10OtherElementsEngaged() {
        PlanetaryGearbox box = Boxes.brakesAlone(6);
        box.select(63);
        box.release(5);
        box.engage(5);
        box.select(62);
        int[] before = {63, 31, 63, 0};
        for (int mask : before) {
            Check.isTrue("10 a change before which were " + mask, box.undo());
            Check.equal("10 as before the change", box.engaged(), mask);
        }
    }

    /** Promise 10, the same sentence: calls after which the same elements are engaged. */
    private static void promise10SameElementsIsNoChange() {
        PlanetaryGearbox box = Boxes.brakesAlone(6);
        box.select(0);
        box.release(0);
        Check.isFalse("10 no change yet", box.undo());
        for (int change = 1; change <= 20; change++) {
            box.select(change);
        }
        for (int call = 0; call < 5; call++) {
            box.engage(2);
            box.release(0);
            box.select(20);
        }
        for (int change = 20; change >= 1; change--) {
            Check.isTrue("10 change " + change + " was not pushed out", box.undo());
            Check.equal("10 as before change " + change, box.engaged(), change - 1);
        }
        Check.isFalse("10 no other change", box.undo());
    }

    /** Promise 10, the same sentence, and CONVENTIONS: a refused call is no change. */
    private static void promise10RefusedIsNoChange() {
        Refusal.index("10 refused engage", Boxes::full, x -> x.engage(-1));
        Refusal.index("10 refused release", Boxes::full, x -> x.release(6));
        Refusal.argument("10 refused select", Boxes::full, x -> x.select(64));
    }

    /** Promise 10: "Only the latest 20 changes can be undone": after 19 to 22 and after 200. */
    private static void promise10Latest20() {
        int[] changes = {1, 19, 20, 21, 22, 39, 40, 41, 200};
        for (int made : changes) {
            PlanetaryGearbox box = Boxes.brakesAlone(6);
            for (int change = 1; change <= made; change++) {
                box.select(change % 64);
            }
            int first = made > 20 ? made - 20 : 0;
            for (int change = made; change > first; change--) {
                Check.isTrue("10 of " + made + " change " + change, box.undo());
                Check.equal("10 as before change " + change, box.engaged(), (change - 1) % 64);
            }
            Check.isFalse("10 of " + made + " no more than 20", box.undo());
            Check.equal("10 of " + made + " the elements stay", box.engaged(), first % 64);
        }
    }

    /**
     * Promise 10, the same sentence. Whether a change that has been undone counts among the 20 is
     * not said; it is read here as one that does not: 25 changes, 5 undone and 5 new ones.
     */
    private static void promise10Latest20AfterUndoing() {
        PlanetaryGearbox box = Boxes.brakesAlone(6);
        for (int change = 1; change <= 25; change++) {
            box.select(change);
        }
        for (int undone = 0; undone < 5; undone++) {
            Check.isTrue("10 undo of 25", box.undo());
        }
        for (int change = 41; change <= 45; change++) {
            box.select(change);
        }
        int[] before = {44, 43, 42, 41, 20, 19, 18, 17, 16, 15, 14, 13, 12, 11, 10, 9, 8, 7, 6, 5};
        for (int mask : before) {
            Check.isTrue("10 a change before which were " + mask, box.undo());
            Check.equal("10 as before it", box.engaged(), mask);
        }
        Check.isFalse("10 no more than 20", box.undo());
    }

    /** Promise 10: "restore() makes all earlier changes impossible to undo." */
    private static void promise10RestoreForgets() {
        PlanetaryGearbox box = Boxes.full();
        box.restore(1);
        Check.isFalse("10 none before restore", box.undo());
        Check.equal("10 as restored", box.engaged(), 1);
        box.engage(3);
        Check.isTrue("10 one after restore", box.undo());
        Check.equal("10 as restored again", box.engaged(), 1);
        Check.isFalse("10 none before restore again", box.undo());
        PlanetaryGearbox same = Boxes.small(1);
        same.save(1);
        same.restore(1);
        Check.isFalse("10 none before a restore of the same", same.undo());
        Check.equal("10 the same", same.engaged(), 1);
    }

    /** Promise 10, the same sentence: a restore that is refused, and save, forget nothing. */
    private static void promise10RefusedRestoreForgetsNothing() {
        Refusal.state("10 nothing saved", () -> Boxes.small(1), x -> x.restore(1));
        Refusal.argument("10 no such slot", Boxes::full, x -> x.restore(2));
        PlanetaryGearbox box = Boxes.small(1);
        box.save(0);
        Check.isTrue("10 save forgets nothing", box.undo());
        Check.equal("10 as before", box.engaged(), 2);
    }

    /** Promise 10: "Returns true if a change was undone, false if there is none." */
    private static void promise10FalseIfThereIsNone() {
        PlanetaryGearbox empty = Boxes.empty();
        Check.isFalse("10 none in an empty gearbox", empty.undo());
        PlanetaryGearbox box = Boxes.brakesAlone(2);
        Check.isFalse("10 none with elements", box.undo());
        box.engage(1);
        Check.isTrue("10 one", box.undo());
        Check.isFalse("10 none twice", box.undo());
        Check.isFalse("10 none thrice", box.undo());
        Check.equal("10 nothing engaged", box.engaged(), 0);
        box.engage(0);
        Check.isTrue("10 one more", box.undo());
    }

    /** Promise 11: "Returns their mask.": of none, of the last one, of all. */
    private static void promise11Mask() {
        PlanetaryGearbox box = Boxes.brakesAlone(6);
        Check.equal("11 none", box.engaged(), 0);
        box.engage(5);
        Check.equal("11 the last", box.engaged(), 32);
        box.select(63);
        Check.equal("11 all", box.engaged(), 63);
    }

    /** Promise 12: "Returns true if no clutch is engaged.": with none, with the first or last. */
    private static void promise12NoClutchEngaged() {
        Check.isTrue("12 no elements", Boxes.empty().brakesOnly());
        for (int clutch = 0; clutch < 6; clutch++) {
            PlanetaryGearbox box = Boxes.empty();
            for (int element = 0; element < 6; element++) {
                if (element == clutch) {
                    box.addClutch(0, 5);
                } else {
                    box.addBrake(0);
                }
            }
            Check.isTrue("12 nothing engaged", box.brakesOnly());
            box.select(63 - (1 << clutch));
            Check.isTrue("12 all brakes, not clutch " + clutch, box.brakesOnly());
            box.engage(clutch);
            Check.isFalse("12 all brakes and clutch " + clutch, box.brakesOnly());
            box.select(1 << clutch);
            Check.isFalse("12 clutch " + clutch + " alone", box.brakesOnly());
        }
    }
}

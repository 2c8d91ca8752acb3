import java.util.ArrayList;
import java.util.Arrays;
import java.util.List;
import java.util.function.Consumer;

/**
 * Runs of many calls on gearboxes made by a fixed sequence of numbers: every answer and every
 * exception is compared with ReferenceGearbox. Nothing is promised after 512 calls: before that
 * a new object takes the place of the old one, with the same changes.
 */
public final class ReferenceTest {
    private static final int RUNS = 250;
    private static final int CALLS = 40;
    private static final int PROMISED_CALLS = 512;

    private long seed;
    private PlanetaryGearbox box = new PlanetaryGearbox();
    private int calls = 0;
    private final List<Consumer<PlanetaryGearbox>> changes = new ArrayList<>();
    private final ReferenceGearbox due = new ReferenceGearbox();
    private final String run;

    private ReferenceTest(int number) {
        seed = 77777L * number + 5;
        run = "run " + number + " ";
    }

    public static void main(String[] args) {
        for (int number = 0; number < RUNS; number++) {
            new ReferenceTest(number).go();
        }
        Check.finish();
    }

    private void go() {
        willCall(9);
        int sets = number(4);
        for (int i = 0; i < sets; i++) {
            addSet();
        }
        int elements = number(7);
        for (int i = 0; i < elements; i++) {
            addElement();
        }
        for (int call = 0; call < CALLS; call++) {
            willCall(2);
            change(number(12));
            Check.equal(run + "engaged", box.engaged(), due.engaged);
            if (call % 4 == 0) {
                compareSpeeds();
                compareTorques();
            }
            if (call % 10 == 9) {
                compareGears();
            }
        }
    }

    /** Comes before that many calls of the box, and before its changes are looked up. */
    private void willCall(int more) {
        if (calls + more > PROMISED_CALLS) {
            box = new PlanetaryGearbox();
            for (Consumer<PlanetaryGearbox> change : changes) {
                change.accept(box);
            }
            calls = changes.size();
        }
        calls += more;
    }

    private int number(int bound) {
        seed = seed * 6364136223846793005L + 1442695040888963407L;
        return (int) ((seed >>> 33) % bound);
    }

    private void change(int kind) {
        int elements = due.elements.size();
        if (kind == 0) {
            addSet();
        } else if (kind == 1) {
            addElement();
        } else if (kind == 2) {
            saveOrRestore();
        } else if (kind == 3 && elements > 0) {
            setCapacity(number(elements), 1 + number(10000));
        } else if (kind == 4) {
            Check.equal(run + "undo", box.undo() ? 1 : 0, due.undo() ? 1 : 0);
            changes.add(x -> x.undo());
        } else if (kind < 8) {
            int mask = number(1 << elements);
            Check.equal(run + "select", box.select(mask), due.engaged);
            due.change(mask);
            changes.add(x -> x.select(mask));
        } else if (elements > 0) {
            engageOrRelease(kind < 10, number(elements));
        }
    }

    private void addSet() {
        int sun = number(6);
        int ring = (sun + 1 + number(5)) % 6;
        int carrier = number(6);
        int sunTeeth = 10 + number(31);
        int ringTeeth = sunTeeth + 1 + number(100 - sunTeeth);
        if (carrier == sun || carrier == ring) {
            Check.argument(run + "addSet", () -> box.addSet(sun, ring, carrier, sunTeeth, ringTeeth));
        } else if (due.sets.size() == 3) {
            Check.state(run + "addSet", () -> box.addSet(sun, ring, carrier, sunTeeth, ringTeeth));
        } else {
            due.sets.add(new ReferenceGearbox.GearSet(sun, ring, carrier, sunTeeth, ringTeeth));
            Check.equal(run + "addSet", box.addSet(sun, ring, carrier, sunTeeth, ringTeeth),
                    due.sets.size());
            changes.add(x -> x.addSet(sun, ring, carrier, sunTeeth, ringTeeth));
        }
    }

    private void addElement() {
        int first = number(6);
        int second = number(2) == 0 ? -1 : (first + 1 + number(5)) % 6;
        if (due.elements.size() == 6) {
            Check.state(run + "add", () -> addElement(box, first, second));
        } else {
            Check.equal(run + "add", addElement(box, first, second), due.elements.size());
            due.elements.add(new ReferenceGearbox.Element(first, second, 1000));
            changes.add(x -> addElement(x, first, second));
        }
    }

    private static int addElement(PlanetaryGearbox asked, int first, int second) {
        return second < 0 ? asked.addBrake(first) : asked.addClutch(first, second);
    }

    private void setCapacity(int element, int capacity) {
        ReferenceGearbox.Element old = due.elements.get(element);
        Check.equal(run + "setCapacity", box.setCapacity(element, capacity), old.capacity());
        due.elements.set(element,
                new ReferenceGearbox.Element(old.first(), old.second(), capacity));
        changes.add(x -> x.setCapacity(element, capacity));
    }

    private void engageOrRelease(boolean engage, int element) {
        boolean was = (due.engaged & 1 << element) != 0;
        if (engage) {
            Check.equal(run + "engage", box.engage(element) ? 1 : 0, was ? 0 : 1);
            due.change(due.engaged | 1 << element);
            changes.add(x -> x.engage(element));
        } else {
            Check.equal(run + "release", box.release(element) ? 1 : 0, was ? 1 : 0);
            due.change(due.engaged & ~(1 << element));
            changes.add(x -> x.release(element));
        }
    }

    private void saveOrRestore() {
        int slot = number(2);
        if (number(3) == 0) {
            box.save(slot);
            due.save(slot);
            changes.add(x -> x.save(slot));
        } else if (due.slots[slot] == null) {
            Check.state(run + "restore", () -> box.restore(slot));
        } else {
            box.restore(slot);
            due.restore(slot);
            changes.add(x -> x.restore(slot));
        }
    }

    private void compareSpeeds() {
        willCall(20);
        Check.equal(run + "sets", box.count(0), due.sets.size());
        Check.equal(run + "elements", box.count(1), due.elements.size());
        Check.equal(run + "brakesOnly", box.brakesOnly() ? 1 : 0, due.brakesOnly() ? 1 : 0);
        Check.equal(run + "state", box.state(), due.state(due.engaged));
        for (int shaft = 0; shaft < ReferenceGearbox.SHAFTS; shaft++) {
            int asked = shaft;
            compare("speed " + shaft, part -> box.speed(asked, part), due.speed(shaft));
        }
        ReferenceGearbox.Fraction ratio = due.ratio(due.engaged);
        compare("ratio", box::ratio, ratio);
        if (ratio == null) {
            Check.state(run + "ratioAsFloat", box::ratioAsFloat);
        } else {
            Check.equalFloat(run + "ratioAsFloat", box.ratioAsFloat(), ratio.asFloat());
        }
    }

    private void compareTorques() {
        willCall(16);
        compare("outputTorque", box::outputTorque, due.outputTorque());
        for (int element = 0; element < due.elements.size(); element++) {
            int asked = element;
            compare("torque " + element, part -> box.torque(asked, part), due.torque(element));
        }
        int inputTorque = 1 + number(10000);
        Check.equal(run + "slipping", box.slipping(inputTorque), due.slipping(inputTorque));
        if (due.state(due.engaged) == 0) {
            Check.equal(run + "greatestTorque", box.greatestTorque(), due.greatestTorque());
        } else {
            Check.state(run + "greatestTorque", box::greatestTorque);
        }
    }

    private interface Question {
        long ask(int part);
    }

    private void compare(String call, Question question, ReferenceGearbox.Fraction answer) {
        for (int part = 0; part < 2; part++) {
            int asked = part;
            if (answer == null) {
                Check.state(run + call, () -> question.ask(asked));
            } else {
                Check.equal(run + call, question.ask(part), answer.part(part));
            }
        }
    }

    private void compareGears() {
        List<ReferenceGearbox.Gear> gears = due.gears();
        int size = gears.size();
        willCall(4);
        Check.equal(run + "gears", box.count(2), size);
        if (box.count(2) != size) {
            return;
        }
        Check.index(run + "gear", () -> box.gear(size));
        Check.index(run + "step", () -> box.step(size - 1));
        int[] indexes = new int[1 << due.elements.size()];
        Arrays.fill(indexes, -1);
        for (int index = 0; index < size; index++) {
            ReferenceGearbox.Gear gear = gears.get(index);
            indexes[gear.mask()] = index;
            int asked = index;
            willCall(4);
            Check.equal(run + "gear", box.gear(index), gear.mask());
            compare("gearRatio", part -> box.gearRatio(asked, part), gear.ratio());
            if (index + 1 < size) {
                Check.equalFloat(run + "step", box.step(index),
                        gears.get(index + 1).ratio().asFloat() / gear.ratio().asFloat());
            }
            compareWays(gears, index);
        }
        willCall(indexes.length);
        for (int mask = 0; mask < indexes.length; mask++) {
            Check.equal(run + "indexOf", box.indexOf(mask), indexes[mask]);
        }
    }

    private void compareWays(List<ReferenceGearbox.Gear> gears, int from) {
        for (int to = 0; to < gears.size(); to++) {
            int[] way = ReferenceGearbox.way(gears, from, to);
            int shifts = way == null ? -1 : way.length - 1;
            willCall(4 + shifts);
            Check.equal(run + "fewestShifts", box.fewestShifts(from, to), shifts);
            for (int index = -1; index <= shifts + 1; index++) {
                int gear = index < 0 || index > shifts ? -1 : way[index];
                Check.equal(run + "shift", box.shift(from, to, index), gear);
            }
        }
    }
}

import java.util.function.LongSupplier;

/**
 * What can be seen on a gearbox, as texts of several kinds. Most kinds change the gearbox while
 * they look, and all of them together take more than 512 calls: each wants a gearbox of its own.
 */
final class Look {
    static final int PRESENT = 0;
    static final int CHANGES = 1;
    static final int CAPACITIES = 2;
    static final int MASKS = 3;
    static final int GEARS = 4;
    static final int SLOT_0 = 5;
    static final int SLOT_1 = 6;
    static final int ROOM = 7;
    static final int KINDS = 8;

    private static final int SHAFTS = 6;
    private static final int MOST_CHANGES = 20;

    private final PlanetaryGearbox box;
    private final StringBuilder text = new StringBuilder();

    private Look(PlanetaryGearbox box) {
        this.box = box;
    }

    static String at(PlanetaryGearbox box, int kind) {
        Look look = new Look(box);
        switch (kind) {
            case PRESENT -> look.present();
            case CHANGES -> look.changes();
            case CAPACITIES -> look.capacities();
            case MASKS -> look.masks();
            case GEARS -> look.gears();
            case SLOT_0 -> look.slot(0);
            case SLOT_1 -> look.slot(1);
            default -> look.room();
        }
        return look.text.toString();
    }

    private void see(String call, LongSupplier question) {
        text.append(' ').append(call).append('=');
        try {
            text.append(question.getAsLong());
        } catch (RuntimeException thrown) {
            text.append(thrown.getClass().getName());
        }
    }

    private void present() {
        for (int what = 0; what < 3; what++) {
            int asked = what;
            see("count", () -> box.count(asked));
        }
        see("engaged", box::engaged);
        see("brakesOnly", () -> box.brakesOnly() ? 1 : 0);
        see("state", box::state);
        for (int part = 0; part < 2; part++) {
            int asked = part;
            for (int shaft = 0; shaft < SHAFTS; shaft++) {
                int turning = shaft;
                see("speed", () -> box.speed(turning, asked));
            }
            for (int element = 0; element < box.count(1); element++) {
                int held = element;
                see("torque", () -> box.torque(held, asked));
            }
            see("ratio", () -> box.ratio(asked));
            see("outputTorque", () -> box.outputTorque(asked));
        }
        see("slipping", () -> box.slipping(1000));
        see("greatestTorque", box::greatestTorque);
    }

    private void changes() {
        for (int undone = 0; undone <= MOST_CHANGES; undone++) {
            see("undo", () -> box.undo() ? 1 : 0);
            see("engaged", box::engaged);
        }
    }

    private void capacities() {
        for (int element = 0; element < box.count(1); element++) {
            int held = element;
            see("capacity", () -> box.setCapacity(held, 1));
        }
    }

    private void masks() {
        int masks = 1 << box.count(1);
        for (int mask = 0; mask < masks; mask++) {
            box.select(mask);
            see("state", box::state);
            see("ratio", () -> box.ratio(0));
            see("ratio", () -> box.ratio(1));
            see("outputTorque", () -> box.outputTorque(0));
        }
    }

    private void gears() {
        int gears = box.count(2);
        for (int index = 0; index < gears; index++) {
            int asked = index;
            see("gear", () -> box.gear(asked));
            see("gearRatio", () -> box.gearRatio(asked, 0));
            see("gearRatio", () -> box.gearRatio(asked, 1));
            see("step", () -> Float.floatToIntBits(box.step(asked)));
            see("fewestShifts", () -> box.fewestShifts(0, asked));
            see("shift", () -> box.shift(0, asked, 1));
        }
        int masks = 1 << box.count(1);
        for (int mask = 0; mask < masks; mask++) {
            int asked = mask;
            see("indexOf", () -> box.indexOf(asked));
        }
    }

    private void slot(int slot) {
        see("restore", () -> {
            box.restore(slot);
            return 0;
        });
        present();
        gears();
        capacities();
    }

    /** How many gear sets and elements can still be added. */
    private void room() {
        for (int added = 0; added < 4; added++) {
            see("addSet", () -> box.addSet(0, 3, 1, 20, 41));
        }
        for (int added = 0; added < 7; added++) {
            see("addBrake", () -> box.addBrake(3));
        }
        present();
    }
}

import java.util.function.Consumer;
import java.util.function.Supplier;

/**
 * A refused call is tested twice over: that it throws the very exception which is due, and that
 * it changes nothing: the gearbox then looks like one on which the call was never made.
 */
final class Refusal {
    private Refusal() {
    }

    static void index(String sentence, Supplier<PlanetaryGearbox> maker,
            Consumer<PlanetaryGearbox> call) {
        Check.index(sentence, () -> call.accept(maker.get()));
        changesNothing(sentence, maker, call);
    }

    static void argument(String sentence, Supplier<PlanetaryGearbox> maker,
            Consumer<PlanetaryGearbox> call) {
        Check.argument(sentence, () -> call.accept(maker.get()));
        changesNothing(sentence, maker, call);
    }

    static void state(String sentence, Supplier<PlanetaryGearbox> maker,
            Consumer<PlanetaryGearbox> call) {
        Check.state(sentence, () -> call.accept(maker.get()));
        changesNothing(sentence, maker, call);
    }

    private static void changesNothing(String sentence, Supplier<PlanetaryGearbox> maker,
            Consumer<PlanetaryGearbox> call) {
        for (int kind = 0; kind < Look.KINDS; kind++) {
            PlanetaryGearbox asked = maker.get();
            try {
                call.accept(asked);
            } catch (RuntimeException refused) {
                // Whether it is the one that is due has been looked at before.
            }
            Check.equalText(sentence + ": nothing changed", Look.at(asked, kind),
                    Look.at(maker.get(), kind));
        }
    }
}

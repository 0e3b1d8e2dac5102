import java.util.function.Supplier;
import java.util.function.ToIntFunction;

/** Two boards with the same past. What is refused on one of them must leave both the same, now and as they go on. */
final class Twins {
    private final Rig one;
    private final Rig other;

    Twins(Supplier<Rig> made) {
        one = made.get();
        other = made.get();
    }

    Twins refused(String what, int want, ToIntFunction<GrantBoard> call) {
        Check.due(what, call.applyAsInt(one.board), want);
        compare(what);
        return this;
    }

    /** All that is told, and the cells; then both go on, and once more. */
    void finish(String what) {
        compareCells(what);
        if (one.board.count(0) == 1) {
            Check.due(what + " goes on", one.board.run(200), other.board.run(200));
        } else {
            Check.due(what + " boots", one.board.boot(2, 3, 1, false, 9), other.board.boot(2, 3, 1, false, 9));
        }
        compare(what + ", later");
        compareCells(what + ", later");
    }

    private void same(String what, ToIntFunction<GrantBoard> call) {
        Check.due(what, call.applyAsInt(one.board), call.applyAsInt(other.board));
    }

    private void compare(String what) {
        for (int i = 0; i < 12; i++) {
            int k = i;
            same(what + ": count " + k, b -> b.count(k));
            same(what + ": event " + k, b -> b.event(k, 3));
            same(what + ": out " + k, b -> b.out(k));
            same(what + ": lamp " + k, b -> b.lamp(k));
            same(what + ": stored " + k, b -> b.stored(1, k, -1));
        }
        for (int i = 0; i < 4; i++) {
            compareProcess(what + ": process " + i, i);
        }
    }

    private void compareProcess(String what, int i) {
        for (int n = 0; n < 32; n++) {
            int k = n;
            same(what + " x" + k, b -> b.register(i, k));
            same(what + " what " + k, b -> b.process(i, k));
            same(what + " entry " + k, b -> b.entry(i, k / 2, k % 2));
            same(what + " upcall " + k, b -> b.upcall(i, k / 5, k % 5));
            same(what + " grant " + k, b -> b.grant(i, k));
        }
    }

    private void compareCells(String what) {
        for (int address = 0x10000; address < 0x30000; address++) {
            if (one.board.memory(address) != other.board.memory(address)) {
                int at = address;
                same(what + ": memory " + Integer.toHexString(at), b -> b.memory(at));
            }
        }
    }
}

import java.lang.reflect.Field;

/** Sets what no run of 512 calls can reach: a time or a count near its end. */
final class Inside {
    private Inside() {
    }

    private static Object get(Object of, String name) {
        try {
            Field f = of.getClass().getDeclaredField(name);
            f.setAccessible(true);
            return f.get(of);
        } catch (ReflectiveOperationException e) {
            throw new IllegalStateException(e);
        }
    }

    static void setTime(GrantBoard board, int time) {
        Object journal = get(board, "journal");
        try {
            Field f = journal.getClass().getDeclaredField("time");
            f.setAccessible(true);
            f.setInt(journal, time);
        } catch (ReflectiveOperationException e) {
            throw new IllegalStateException(e);
        }
    }

    static void setCount(GrantBoard board, int what, int v) {
        ((int[]) get(get(board, "journal"), "counts"))[what] = v;
    }
}

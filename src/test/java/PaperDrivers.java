import java.util.ArrayList;
import java.util.Arrays;
import java.util.List;

/** Parts 5 and 7 for a PaperBoard: system calls, upcalls, grants and drivers. */
final class PaperDrivers {
    private final PaperBoard board;
    final boolean[] lamps = new boolean[4];
    private final boolean[] buttons = new boolean[4];
    final int[] levels = new int[2];
    final List<Integer> out = new ArrayList<>();
    private int z;
    /** Processes with a write or a read under way, those that asked first in front; some may be over by now. */
    private final List<PaperBoard.Proc> writers = new ArrayList<>();
    private final List<PaperBoard.Proc> readers = new ArrayList<>();

    PaperDrivers(PaperBoard board) {
        this.board = board;
    }

    void boot(int seed) {
        Arrays.fill(lamps, false);
        z = seed;
        writers.clear();
        readers.clear();
    }

    // ---- grants

    int own(PaperBoard.Proc p, int driver, int word) {
        int[] d = PaperBoard.DRIVERS[driver];
        return p.grants.get(driver) + 8 + 8 * (d[0] + d[1] + d[2]) + 4 * word;
    }

    private int getOwn(PaperBoard.Proc p, int driver, int word) {
        return p.grants.containsKey(driver) ? board.peek(own(p, driver, word), 4) : 0;
    }

    private void setOwn(PaperBoard.Proc p, int driver, int word, int v) {
        board.poke(own(p, driver, word), 4, v);
    }

    private int subscription(PaperBoard.Proc p, int driver, int number) {
        return p.grants.get(driver) + 8 + 8 * number;
    }

    private int buffer(PaperBoard.Proc p, int driver, boolean writing, int k) {
        int[] d = PaperBoard.DRIVERS[driver];
        return p.grants.get(driver) + 8 + 8 * (d[0] + (writing ? d[1] : 0) + k);
    }

    private int addressOf(PaperBoard.Proc p, int driver, boolean writing, int k) {
        return board.peek(buffer(p, driver, writing, k), 4);
    }

    private int sizeOf(PaperBoard.Proc p, int driver, boolean writing, int k) {
        return board.peek(buffer(p, driver, writing, k) + 4, 4);
    }

    private boolean grant(PaperBoard.Proc p, int driver) {
        int[] d = PaperBoard.DRIVERS[driver];
        if (d == null || p.grants.containsKey(driver)) {
            return true;
        }
        int words = 2 + 2 * (d[0] + d[1] + d[2]) + d[3];
        int at = p.lowest - 4 * words;
        if (at < p.brk) {
            return false;
        }
        Arrays.fill(board.cells, at, p.lowest, (byte) 0);
        board.poke(at, 4, driver);
        board.poke(at + 4, 4, p.grants.isEmpty() ? 0 : p.lowest);
        p.lowest = at;
        p.grants.put(driver, at);
        return true;
    }

    // ---- upcalls

    void upcall(PaperBoard.Proc p, int driver, int number, int a, int b, int c) {
        int[] up = {driver, number, a, b, c};
        if (p.over()) {
            return;
        }
        if (p.state == PaperBoard.WAITS_FOR && p.waitsFor[0] == driver && p.waitsFor[1] == number) {
            give(p, up);
        } else if (board.peek(subscription(p, driver, number), 4) == 0) {
            return;
        } else if (p.state == PaperBoard.WAITS) {
            enter(p, up);
        } else if (p.waiting.size() == 10) {
            p.dropped++;
            board.note(p, 5, 16 * driver + number);
        } else {
            p.waiting.add(up);
        }
    }

    private void give(PaperBoard.Proc p, int[] up) {
        System.arraycopy(up, 2, p.x, 10, 3);
        p.state = PaperBoard.READY;
        p.reserved = null;
        board.note(p, 1, 16 * up[0] + up[1]);
    }

    private void enter(PaperBoard.Proc p, int[] up) {
        give(p, up);
        int at = subscription(p, up[0], up[1]);
        p.x[1] = p.pc;
        p.x[13] = board.peek(at + 4, 4);
        p.pc = board.peek(at, 4);
    }

    // ---- system calls

    private static void answer(PaperBoard.Proc p, int... v) {
        System.arraycopy(v, 0, p.x, 10, v.length);
    }

    private static void fail(PaperBoard.Proc p, int error) {
        answer(p, 0, error);
    }

    void call(PaperBoard.Proc p) {
        board.note(p, 0, p.x[14]);
        p.reserved = null;
        int a0 = p.x[10];
        int a1 = p.x[11];
        int a2 = p.x[12];
        int a3 = p.x[13];
        switch (p.x[14]) {
            case 0: yieldBy(p, a0, a1, a2); break;
            case 1: subscribe(p, a0, a1, a2, a3); break;
            case 2: command(p, a0, a1, a2, a3); break;
            case 3: allow(p, true, a0, a1, a2, a3); break;
            case 4: allow(p, false, a0, a1, a2, a3); break;
            case 5: memory(p, a0, a1); break;
            case 6: exit(p, a0, a1); break;
            default: fail(p, 10); break;
        }
    }

    private void yieldBy(PaperBoard.Proc p, int how, int a1, int a2) {
        if (how == 0) {
            if (board.accessible(p, a1, 1)) {
                board.poke(a1, 1, p.waiting.isEmpty() ? 0 : 1);
            }
            if (!p.waiting.isEmpty()) {
                enter(p, p.waiting.remove(0));
            }
        } else if (how == 1) {
            if (p.waiting.isEmpty()) {
                p.state = PaperBoard.WAITS;
            } else {
                enter(p, p.waiting.remove(0));
            }
        } else if (how == 2) {
            for (int[] up : p.waiting) {
                if (up[0] == a1 && up[1] == a2) {
                    p.waiting.remove(up);
                    give(p, up);
                    return;
                }
            }
            p.state = PaperBoard.WAITS_FOR;
            p.waitsFor = new int[] {a1, a2};
        } else {
            fail(p, 10);
        }
    }

    private static boolean isDriver(int d) {
        return d >= 0 && d <= 8;
    }

    /** How many subscriptions (0), buffers for reading (1) or for writing (2) a driver has. */
    private static boolean has(int driver, int which, int k) {
        int[] d = PaperBoard.DRIVERS[driver];
        return d != null && k >= 0 && k < d[which];
    }

    private void subscribe(PaperBoard.Proc p, int driver, int number, int function, int data) {
        if (!isDriver(driver)) {
            answer(p, 2, 11, function, data);
        } else if (!has(driver, 0, number) || function != 0 && (function % 2 != 0 || !board.inApp(p, function, 1))) {
            answer(p, 2, 6, function, data);
        } else if (!grant(p, driver)) {
            answer(p, 2, 9, function, data);
        } else {
            p.waiting.removeIf(up -> up[0] == driver && up[1] == number);
            swap(p, subscription(p, driver, number), function, data);
        }
    }

    private void swap(PaperBoard.Proc p, int at, int first, int second) {
        answer(p, 130, board.peek(at, 4), board.peek(at + 4, 4));
        board.poke(at, 4, first);
        board.poke(at + 4, 4, second);
    }

    private void allow(PaperBoard.Proc p, boolean writing, int driver, int k, int address, int size) {
        if (!isDriver(driver)) {
            answer(p, 2, 11, address, size);
            return;
        }
        boolean lies = size == 0 || board.accessible(p, address, size) || !writing && board.inApp(p, address, size);
        if (!has(driver, writing ? 2 : 1, k) || !lies) {
            answer(p, 2, 6, address, size);
        } else if (!grant(p, driver)) {
            answer(p, 2, 9, address, size);
        } else {
            swap(p, buffer(p, driver, writing, k), address, size);
        }
    }

    private void memory(PaperBoard.Proc p, int how, int a1) {
        long wanted = how == 0 ? a1 & 0xFFFFFFFFL : (long) p.brk + a1;
        int[] told = {p.app.address, p.app.address + p.app.total, p.base, p.brk, p.lowest};
        if (how >= 2 && how <= 6) {
            answer(p, 129, told[how - 2]);
            return;
        }
        if (how != 0 && how != 1) {
            fail(p, 10);
            return;
        }
        wanted = Math.floorDiv(wanted + 3, 4L) * 4;
        long least = p.base;
        for (int driver : p.grants.keySet()) {
            int[] d = PaperBoard.DRIVERS[driver];
            for (int k = 0; k < d[1] + d[2]; k++) {
                int at = buffer(p, driver, false, k);
                int address = board.peek(at, 4);
                int size = board.peek(at + 4, 4);
                if (size != 0 && address >= 0x20000) {
                    least = Math.max(least, address + size);
                }
            }
        }
        if (wanted < least) {
            fail(p, 6);
        } else if (wanted > p.lowest) {
            fail(p, 9);
        } else if (how == 0) {
            p.brk = (int) wanted;
            answer(p, 128);
        } else {
            answer(p, 129, p.brk);
            p.brk = (int) wanted;
        }
    }

    private void exit(PaperBoard.Proc p, int how, int code) {
        if (how == 0) {
            p.code = code;
            board.note(p, 4, code);
            board.stop(p, PaperBoard.ENDED);
        } else if (how == 1) {
            board.startAgain(p);
        } else {
            fail(p, 10);
        }
    }

    private static final String[] COMMANDS = {"12356", "123", "123", "123", "1", "123", "123", "123", "1"};

    private void command(PaperBoard.Proc p, int driver, int c, int v, int w) {
        boolean permitted = p.app.permissions == null || c == 0;
        if (p.app.permissions != null && c > 0 && c < 32) {
            for (int[] pair : p.app.permissions) {
                permitted |= pair[0] == driver && (pair[1] & 1 << c) != 0;
            }
        }
        if (!isDriver(driver) || !permitted) {
            fail(p, 11);
            return;
        }
        if (c == 0) {
            if (driver == 2 || driver == 3 || driver == 6) {
                answer(p, 129, driver == 6 ? 2 : 4);
            } else {
                answer(p, 128);
            }
            return;
        }
        boolean known = c > 0 && c < 10 && COMMANDS[driver].indexOf('0' + c) >= 0;
        if (!known || driver == 5 && p.app.storeNumber == null) {
            fail(p, 10);
        } else if (!grant(p, driver)) {
            fail(p, 9);
        } else {
            obey(p, driver, c, v, w);
        }
    }

    private void obey(PaperBoard.Proc p, int driver, int c, int v, int w) {
        switch (driver) {
            case 0: alarm(p, c, v, w); break;
            case 1: console(p, c, v); break;
            case 2: lamp(p, c, v); break;
            case 3: button(p, c, v); break;
            case 4: random(p, v); break;
            case 5: store(p, c, v, w); break;
            case 6: sampler(p, c, v, w); break;
            case 7: post(p, c, v, w); break;
            default: answer(p, 129, board.crc(addressOf(p, 8, false, 0), least(v, sizeOf(p, 8, false, 0)))); break;
        }
    }

    private static int least(int asked, int has) {
        return Integer.compareUnsigned(asked, has) < 0 ? asked : has;
    }

    // ---- drivers

    private void alarm(PaperBoard.Proc p, int c, int v, int w) {
        if (c == 1) {
            answer(p, 129, 1000);
        } else if (c == 2) {
            answer(p, 129, board.time);
        } else if (c == 3) {
            overOr3(p, 0, 0);
        } else {
            int reference = c == 5 ? board.time : v;
            int length = c == 5 ? v : w;
            setOwn(p, 0, 0, 1);
            setOwn(p, 0, 1, reference);
            setOwn(p, 0, 2, length);
            answer(p, 129, reference + length);
        }
    }

    private void overOr3(PaperBoard.Proc p, int driver, int word) {
        if (getOwn(p, driver, word) == 0) {
            fail(p, 3);
        } else {
            setOwn(p, driver, word, 0);
            answer(p, 128);
        }
    }

    void tick() {
        for (PaperBoard.Proc p : board.procs) {
            if (getOwn(p, 0, 0) == 1) {
                int reference = getOwn(p, 0, 1);
                int length = getOwn(p, 0, 2);
                if (Integer.compareUnsigned(board.time - reference, length) >= 0) {
                    setOwn(p, 0, 0, 0);
                    upcall(p, 0, 0, board.time, reference + length, 0);
                }
            }
        }
        if (board.time % 8 == 0) {
            writeOne();
        }
        for (PaperBoard.Proc p : board.procs) {
            int channel = getOwn(p, 6, 0) - 1;
            if (channel >= 0 && getOwn(p, 6, 2) == board.time) {
                setOwn(p, 6, 2, board.time + getOwn(p, 6, 1));
                upcall(p, 6, 0, channel, levels[channel], 0);
            }
        }
    }

    private void console(PaperBoard.Proc p, int c, int v) {
        if (c == 3) {
            if (getOwn(p, 1, 2) == 0) {
                fail(p, 3);
            } else {
                answer(p, 128);
                readDone(p, 8);
            }
            return;
        }
        boolean reads = c == 2;
        int n = least(v, sizeOf(p, 1, reads, 1));
        int word = reads ? 2 : 0;
        if (getOwn(p, 1, word) != 0) {
            fail(p, 2);
        } else if (n == 0) {
            fail(p, 7);
        } else {
            setOwn(p, 1, word, n);
            setOwn(p, 1, word + 1, 0);
            List<PaperBoard.Proc> row = reads ? readers : writers;
            row.remove(p);
            row.add(p);
            answer(p, 128);
        }
    }

    private PaperBoard.Proc first(List<PaperBoard.Proc> row, int word) {
        row.removeIf(p -> getOwn(p, 1, word) == 0);
        return row.isEmpty() ? null : row.get(0);
    }

    private void writeOne() {
        PaperBoard.Proc p = first(writers, 0);
        if (p == null) {
            return;
        }
        int done = getOwn(p, 1, 1);
        boolean has = done < sizeOf(p, 1, false, 1);
        if (has) {
            out.add(board.peek(addressOf(p, 1, false, 1) + done, 1));
            board.counts[3]++;
            done++;
            setOwn(p, 1, 1, done);
        }
        if (!has || done == getOwn(p, 1, 0)) {
            setOwn(p, 1, 0, 0);
            setOwn(p, 1, 1, 0);
            upcall(p, 1, 1, done, 0, 0);
        }
    }

    int type(int b) {
        PaperBoard.Proc p = first(readers, 2);
        if (p == null) {
            return 0;
        }
        int done = getOwn(p, 1, 3);
        if (done >= sizeOf(p, 1, true, 1)) {
            readDone(p, 0);
            return 0;
        }
        board.poke(addressOf(p, 1, true, 1) + done, 1, b);
        setOwn(p, 1, 3, done + 1);
        if (done + 1 == getOwn(p, 1, 2)) {
            readDone(p, 0);
        }
        return 1;
    }

    private void readDone(PaperBoard.Proc p, int error) {
        int came = getOwn(p, 1, 3);
        setOwn(p, 1, 2, 0);
        setOwn(p, 1, 3, 0);
        upcall(p, 1, 2, error, came, 0);
    }

    private void lamp(PaperBoard.Proc p, int c, int v) {
        if (v < 0 || v > 3) {
            fail(p, 6);
            return;
        }
        lamps[v] = c == 1 || c == 3 && !lamps[v];
        answer(p, 128);
    }

    private void button(PaperBoard.Proc p, int c, int v) {
        if (v < 0 || v > 3) {
            fail(p, 6);
        } else if (c == 3) {
            answer(p, 129, buttons[v] ? 1 : 0);
        } else {
            int others = getOwn(p, 3, 0) & ~(1 << v);
            setOwn(p, 3, 0, c == 1 ? others + (1 << v) : others);
            answer(p, 128);
        }
    }

    int press(int button, boolean down) {
        if (buttons[button] == down) {
            return 0;
        }
        buttons[button] = down;
        for (PaperBoard.Proc p : board.procs) {
            if ((getOwn(p, 3, 0) >> button) % 2 != 0) {
                upcall(p, 3, 0, button, down ? 1 : 0, 0);
            }
        }
        return 1;
    }

    private void random(PaperBoard.Proc p, int v) {
        int n = least(v, sizeOf(p, 4, true, 0));
        for (int i = 0; i < n; i++) {
            z = z * 1664525 + 1013904223;
            board.poke(addressOf(p, 4, true, 0) + i, 1, z >>> 24);
        }
        answer(p, 128);
        upcall(p, 4, 0, 0, n, 0);
    }

    private void store(PaperBoard.Proc p, int c, int key, int w) {
        int number = p.app.storeNumber;
        byte[] value = board.store.get(number, key);
        if (c == 1) {
            for (int i = 0; value != null && i < Math.min(value.length, sizeOf(p, 5, true, 0)); i++) {
                board.poke(addressOf(p, 5, true, 0) + i, 1, value[i]);
            }
            answer(p, 128);
            upcall(p, 5, 0, value == null ? 10 : 0, value == null ? 0 : value.length, key);
        } else if (c == 2) {
            if (w < 0 || w > 32 || w > sizeOf(p, 5, false, 0)) {
                fail(p, 7);
                return;
            }
            int from = w == 0 ? 0 : addressOf(p, 5, false, 0);
            boolean room = board.store.set(number, key, Arrays.copyOfRange(board.cells, from, from + w));
            answer(p, 128);
            upcall(p, 5, 0, room ? 0 : 9, w, key);
        } else {
            int error = value == null ? 10 : board.store.set(number, key, null) ? 0 : 9;
            answer(p, 128);
            upcall(p, 5, 0, error, 0, key);
        }
    }

    private void sampler(PaperBoard.Proc p, int c, int v, int w) {
        if (c == 3) {
            overOr3(p, 6, 0);
        } else if (v != 0 && v != 1 || c == 2 && (w < 1 || w > 100000)) {
            fail(p, 6);
        } else if (c == 1) {
            answer(p, 128);
            upcall(p, 6, 0, v, levels[v], 1);
        } else if (getOwn(p, 6, 0) != 0) {
            fail(p, 2);
        } else {
            setOwn(p, 6, 0, 1 + v);
            setOwn(p, 6, 1, w);
            setOwn(p, 6, 2, board.time + w);
            answer(p, 128);
        }
    }

    private void post(PaperBoard.Proc p, int c, int v, int w) {
        int has = sizeOf(p, 7, false, 0);
        if (c == 2) {
            overOr3(p, 7, 0);
        } else if (c == 3) {
            postName(p, v, has);
        } else {
            PaperBoard.Proc to = v < 0 || v >= board.procs.size() ? null : board.procs.get(v);
            if (to == null || to.over() || !to.grants.containsKey(7) || sizeOf(to, 7, true, 0) == 0) {
                fail(p, 11);
            } else if (to == p) {
                fail(p, 6);
            } else if (getOwn(to, 7, 0) == 1) {
                fail(p, 2);
            } else {
                int n = Math.min(least(w, has), sizeOf(to, 7, true, 0));
                for (int i = 0; i < n; i++) {
                    int b = board.peek(addressOf(p, 7, false, 0) + i, 1);
                    board.poke(addressOf(to, 7, true, 0) + i, 1, b);
                }
                setOwn(to, 7, 0, 1);
                answer(p, 129, n);
                upcall(to, 7, 0, p.number, n, 0);
            }
        }
    }

    private void postName(PaperBoard.Proc p, int v, int has) {
        if (v < 1 || v > 16 || v > has) {
            fail(p, 7);
            return;
        }
        String name = board.text(addressOf(p, 7, false, 0), v);
        for (PaperBoard.Proc other : board.procs) {
            if (name.equals(other.app.name)) {
                answer(p, 129, other.number);
                return;
            }
        }
        fail(p, 11);
    }
}

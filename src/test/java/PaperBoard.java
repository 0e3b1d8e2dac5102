import java.util.ArrayList;
import java.util.Arrays;
import java.util.LinkedHashMap;
import java.util.List;
import java.util.Map;
import java.util.zip.CRC32;

/**
 * The document once more, in its plainest form, slow and with the Java library: what GrantBoard answers is compared
 * with it. It shares no line with GrantBoard and holds its state in another way wherever there is one.
 */
final class PaperBoard {
    static final int NONE = -1, OUTSIDE = -2, STATE = -3, LOST = -4;
    static final int READY = 1, WAITS = 2, WAITS_FOR = 3, ENDED = 4, FAULTED = 5;

    /** Subscriptions, buffers for reading, for writing, own words; null: no grant. */
    static final int[][] DRIVERS = {
        {1, 0, 0, 3}, {3, 2, 2, 4}, null, {1, 0, 0, 1}, {1, 0, 1, 0}, {1, 1, 1, 0}, {1, 0, 0, 3}, {1, 1, 1, 1}, {0, 1, 0, 0}};

    static final class Head {
        int address;
        int size;
        int total;
        boolean counts;
        int start;
        int ram;
        int binaryEnd;
        int version;
        String name;
        Integer storeNumber;
        List<int[]> permissions;
        boolean credentials;
    }

    static final class Proc {
        int number;
        Head app;
        int base;
        int size;
        int brk;
        int lowest;
        final int[] x = new int[32];
        int pc;
        Integer reserved;
        int state;
        boolean held;
        int code;
        int restarts;
        int dropped;
        int[] fault = new int[3];
        final List<int[]> waiting = new ArrayList<>();
        int[] waitsFor;
        final Map<Integer, Integer> grants = new LinkedHashMap<>();
        int level;
        int used;

        boolean canRun() {
            return state == READY && !held;
        }

        boolean over() {
            return state == ENDED || state == FAULTED;
        }
    }

    final byte[] cells = new byte[0x30000];
    final PaperStore store = new PaperStore(this);
    private final PaperMachine machine = new PaperMachine(this);
    private final PaperDrivers drivers = new PaperDrivers(this);
    private final List<Byte> tape = new ArrayList<>();
    final int[] counts = new int[12];
    private final List<int[]> events = new ArrayList<>();
    final List<Proc> procs = new ArrayList<>();
    private boolean on;
    int time;
    private int scheduler;
    private int slice;
    private int limit;
    private Proc turn;
    private int inTurn;
    private List<Proc> places = new ArrayList<>();

    PaperBoard() {
        Arrays.fill(cells, 0x10000, 0x20000, (byte) 255);
    }

    int peek(int address, int bytes) {
        int v = 0;
        for (int i = 0; i < bytes; i++) {
            v |= (cells[address + i] & 255) << 8 * i;
        }
        return v;
    }

    void poke(int address, int bytes, int v) {
        for (int i = 0; i < bytes; i++) {
            cells[address + i] = (byte) (v >>> 8 * i);
        }
    }

    int crc(int address, int n) {
        CRC32 c = new CRC32();
        for (int i = 0; i < n; i++) {
            c.update(cells[address + i]);
        }
        return (int) c.getValue();
    }

    void note(Proc p, int kind, int number) {
        int[] countOf = {5, 6, 7, 8, -1, 9};
        if (countOf[kind] >= 0) {
            counts[countOf[kind]]++;
        }
        counts[11]++;
        events.add(0, new int[] {time, p.number, kind, number});
        if (events.size() > 200) {
            events.remove(200);
        }
    }

    // ---- the maker

    int feed(int... words) {
        if (tape.size() + 20 > 8192) {
            return NONE;
        }
        for (int w : words) {
            for (int i = 0; i < 4; i++) {
                tape.add((byte) (w >>> 24 - 8 * i));
            }
        }
        return tape.size();
    }

    int end(int n) {
        if (n < 0 || n > tape.size()) {
            return OUTSIDE;
        }
        tape.subList(n, tape.size()).clear();
        return n;
    }

    int burn(int address) {
        List<Byte> all = new ArrayList<>(tape);
        tape.clear();
        if (on) {
            return STATE;
        }
        if (address < 0x10000 || address > 0x20000 || (long) address + all.size() > 0x20000) {
            return OUTSIDE;
        }
        for (int i = 0; i < all.size(); i++) {
            cells[address + i] = all.get(i);
        }
        return all.size();
    }

    int boot(int scheduler, int slice, int limit, boolean strict, int seed) {
        if (on) {
            return STATE;
        }
        if (scheduler < 0 || scheduler > 2 || slice < 1 || slice > 1000 || limit < 0 || limit > 100) {
            return OUTSIDE;
        }
        drivers.boot(seed);
        try {
            store.boot();
        } catch (PaperStore.PowerWent went) {
            turnOff();
            return LOST;
        }
        on = true;
        time = 0;
        this.scheduler = scheduler;
        this.slice = slice;
        this.limit = limit;
        turn = null;
        inTurn = 0;
        load(strict);
        places = new ArrayList<>(procs);
        for (Proc p : procs) {
            start(p);
        }
        return procs.size();
    }

    private void turnOff() {
        on = false;
        time = 0;
        procs.clear();
        turn = null;
        Arrays.fill(cells, 0x20000, 0x30000, (byte) 0);
    }

    int off() {
        if (!on) {
            return STATE;
        }
        turnOff();
        return 1;
    }

    int cut(int n) {
        if (n < -1 || n > 10000) {
            return OUTSIDE;
        }
        store.powerGoesAt = n;
        return 1;
    }

    // ---- apps

    private List<Head> heads() {
        List<Head> all = new ArrayList<>();
        int at = 0x10000;
        while (0x1F000 - at >= 16) {
            Head h = new Head();
            h.address = at;
            h.size = peek(at + 2, 2);
            long total = peek(at + 4, 4) & 0xFFFFFFFFL;
            if (peek(at, 2) != 2 || h.size < 16 || h.size > 512 || h.size % 4 != 0) {
                break;
            }
            if (total % 4 != 0 || total < h.size || at + total > 0x1F000) {
                break;
            }
            h.total = (int) total;
            read(h);
            all.add(h);
            at += h.total;
        }
        return all;
    }

    private void read(Head h) {
        int sum = 0;
        for (int i = 0; i < h.size; i += 4) {
            sum ^= i == 12 ? 0 : peek(h.address + i, 4);
        }
        boolean enabled = peek(h.address + 8, 4) % 2 != 0;
        h.counts = sum == peek(h.address + 12, 4) && enabled;
        boolean main = false;
        boolean program = false;
        int at = 16;
        while (at < h.size) {
            int type = peek(h.address + at, 2);
            int n = peek(h.address + at + 2, 2);
            int data = h.address + at + 4;
            at += 4 + (n + 3) / 4 * 4;
            if (at > h.size) {
                h.counts = false;
                return;
            }
            if (type == 9 && n == 20 && !program) {
                program = true;
                h.start = peek(data, 4);
                h.ram = peek(data + 8, 4);
                h.binaryEnd = peek(data + 12, 4);
                h.version = peek(data + 16, 4);
            } else if (type == 1 && n == 12 && !main) {
                main = true;
                if (!program) {
                    h.start = peek(data, 4);
                    h.ram = peek(data + 8, 4);
                    h.binaryEnd = h.total;
                }
            } else if (type == 3 && n >= 1 && n <= 16 && h.name == null) {
                h.name = text(data, n);
            } else if (type == 7 && n == 4 && h.storeNumber == null) {
                h.storeNumber = peek(data, 4);
            } else if (type == 8 && n % 8 == 0 && n >= 8 && n <= 64 && h.permissions == null) {
                h.permissions = new ArrayList<>();
                for (int i = 0; i < n; i += 8) {
                    h.permissions.add(new int[] {peek(data + i, 4), peek(data + i + 4, 4)});
                }
            }
        }
        h.counts &= main || program;
        h.credentials = h.counts && credentials(h);
    }

    String text(int address, int n) {
        return new String(cells, address, n, java.nio.charset.StandardCharsets.ISO_8859_1);
    }

    private boolean credentials(Head h) {
        if (h.binaryEnd % 4 != 0 || h.binaryEnd < h.size || h.binaryEnd > h.total - 12) {
            return false;
        }
        int at = h.address + h.binaryEnd;
        return peek(at, 2) == 128 && peek(at + 2, 2) == 8 && peek(at + 4, 4) == 1
                && peek(at + 8, 4) == crc(h.address, h.binaryEnd);
    }

    private void load(boolean strict) {
        List<Head> able = heads();
        able.removeIf(h -> !h.counts || strict && !h.credentials || Integer.compareUnsigned(h.ram, 15872) > 0);
        int behind = 0x20000;
        for (Head h : able) {
            boolean outdone = false;
            for (Head other : able) {
                int more = Integer.compareUnsigned(other.version, h.version);
                outdone |= other != h && h.name != null && h.name.equals(other.name)
                        && (more > 0 || more == 0 && other.address < h.address);
            }
            int size = 1024;
            while (size < h.ram + 512) {
                size *= 2;
            }
            int base = (behind + size - 1) / size * size;
            if (!outdone && procs.size() < 8 && base + size <= 0x30000) {
                Proc p = new Proc();
                p.number = procs.size();
                p.app = h;
                p.base = base;
                p.size = size;
                procs.add(p);
                behind = base + size;
            }
        }
    }

    int control(Proc p) {
        return p.base + p.size - 64;
    }

    void start(Proc p) {
        Arrays.fill(cells, p.base, control(p), (byte) 0);
        p.brk = p.base + (p.app.ram + 3) / 4 * 4;
        p.lowest = control(p);
        p.grants.clear();
        p.waiting.clear();
        Arrays.fill(p.x, 0);
        p.x[2] = p.brk;
        p.x[10] = p.app.address + p.app.size;
        p.x[11] = p.base;
        p.x[12] = p.size;
        p.x[13] = p.brk;
        p.pc = p.x[10] + p.app.start;
        p.pc -= p.pc & 1;
        p.reserved = null;
        p.state = READY;
        p.code = 0;
    }

    void startAgain(Proc p) {
        start(p);
        p.restarts++;
        note(p, 3, p.restarts);
    }

    private void writeControl(Proc p) {
        int state = p.state + (p.held ? 8 : 0);
        int[] words = {p.number, p.app.address, p.brk, p.lowest, p.restarts, p.waiting.size(), p.fault[0], p.fault[1],
            p.fault[2], state, p.dropped, 0, 0, 0, 0, 0};
        for (int i = 0; i < 16; i++) {
            poke(control(p) + 4 * i, 4, words[i]);
        }
    }

    int[][] plan(Proc p) {
        int[][] plan = new int[16][2];
        int k = region(plan, 0, p.app.address, p.app.total, 5);
        region(plan, k, p.base, p.brk - p.base, 3);
        return plan;
    }

    private static int region(int[][] plan, int k, int address, int size, int rights) {
        if (size == 0) {
            return k;
        }
        if (Integer.bitCount(size) == 1 && address % size == 0) {
            plan[k][0] = size == 4 ? address >> 2 : (address >> 2) | ((size >> 3) - 1);
            plan[k][1] = rights + 8 * (size == 4 ? 2 : 3);
            return k + 1;
        }
        plan[k][0] = address >> 2;
        plan[k + 1][0] = (address + size) >> 2;
        plan[k + 1][1] = rights + 8;
        return k + 2;
    }

    boolean accessible(Proc p, int address, int size) {
        long from = address & 0xFFFFFFFFL;
        return from >= p.base && from + (size & 0xFFFFFFFFL) <= p.brk;
    }

    boolean inApp(Proc p, int address, int size) {
        long from = address & 0xFFFFFFFFL;
        return from >= p.app.address && from + (size & 0xFFFFFFFFL) <= p.app.address + p.app.total;
    }

    // ---- the world

    int run(int n) {
        if (!on) {
            return STATE;
        }
        if (n < 1 || n > 20000) {
            return OUTSIDE;
        }
        try {
            for (int i = 0; i < n; i++) {
                tick();
            }
        } catch (PaperStore.PowerWent went) {
            turnOff();
            return LOST;
        }
        return n;
    }

    private void tick() {
        time++;
        drivers.tick();
        Proc p = choose();
        if (p == null) {
            return;
        }
        counts[10]++;
        try {
            if (machine.step(p)) {
                drivers.call(p);
            }
        } catch (PaperMachine.Fault f) {
            p.fault = new int[] {1 + f.number, f.value, p.pc};
            note(p, 2, f.number);
            if (p.restarts < limit) {
                startAgain(p);
            } else {
                stop(p, FAULTED);
            }
        }
    }

    void stop(Proc p, int state) {
        p.state = state;
        p.waiting.clear();
        for (int driver : p.grants.keySet()) {
            for (int i = 0; i < DRIVERS[driver][3]; i++) {
                poke(drivers.own(p, driver, i), 4, 0);
            }
        }
    }

    private Proc choose() {
        if (scheduler == 2 && Integer.remainderUnsigned(time, 64 * slice) == 0) {
            for (Proc p : procs) {
                p.level = 0;
                p.used = 0;
            }
            places = new ArrayList<>(procs);
            turn = null;
        }
        List<Proc> able = new ArrayList<>(procs);
        able.removeIf(p -> !p.canRun());
        if (able.isEmpty()) {
            return null;
        }
        boolean goesOn = turn != null && turn.canRun();
        if (scheduler == 0) {
            goesOn &= inTurn < slice;
        } else if (scheduler == 1) {
            goesOn &= able.get(0) == turn;
        } else {
            goesOn &= turn != null && turn.used < slice << turn.level;
        }
        if (!goesOn) {
            turn = nextOf(able);
            turn.reserved = null;
            inTurn = 0;
        }
        inTurn++;
        turn.used++;
        return turn;
    }

    private Proc nextOf(List<Proc> able) {
        if (scheduler == 0 && turn != null) {
            for (Proc p : able) {
                if (p.number > turn.number) {
                    return p;
                }
            }
        }
        if (scheduler != 2) {
            return able.get(0);
        }
        if (turn != null) {
            if (turn.used >= slice << turn.level) {
                turn.level = Math.min(turn.level + 1, 2);
                turn.used = 0;
            }
            places.remove(turn);
            places.add(turn);
        }
        for (int level = 0; level < 3; level++) {
            for (Proc p : places) {
                if (p.level == level && p.canRun()) {
                    return p;
                }
            }
        }
        throw new IllegalStateException();
    }

    int press(int button, boolean down) {
        return button < 0 || button > 3 ? OUTSIDE : drivers.press(button, down);
    }

    int type(int b) {
        return !on ? STATE : b < 0 || b > 255 ? OUTSIDE : drivers.type(b);
    }

    int level(int channel, int v) {
        if (channel != 0 && channel != 1) {
            return OUTSIDE;
        }
        drivers.levels[channel] = v;
        return 1;
    }

    private Proc find(int n) {
        return n < 0 || n >= procs.size() ? null : procs.get(n);
    }

    int hold(int process, boolean held) {
        Proc p = find(process);
        if (!on || p == null) {
            return on ? NONE : STATE;
        }
        int changed = p.held != held ? 1 : 0;
        p.held = held;
        return changed;
    }

    int restart(int process) {
        Proc p = find(process);
        if (!on || p == null) {
            return on ? NONE : STATE;
        }
        startAgain(p);
        return 1;
    }

    // ---- what is told

    int count(int what) {
        if (what < 0 || what > 11) {
            return OUTSIDE;
        }
        return what == 0 ? on ? 1 : 0 : what == 1 ? procs.size() : what == 2 ? time : counts[what];
    }

    int process(int process, int what) {
        Proc p = find(process);
        if (!on || p == null) {
            return on ? NONE : STATE;
        }
        int[] all = {p.state + (p.held ? 8 : 0), p.pc, p.app.address, p.app.total, p.base, p.size, p.brk, p.lowest,
            p.restarts, p.waiting.size(), p.grants.size(), p.code, scheduler == 2 ? p.level : 0, p.app.version,
            turn == p ? 1 : 0};
        return what < 0 || what > 14 ? OUTSIDE : all[what];
    }

    int register(int process, int r) {
        Proc p = find(process);
        if (!on) {
            return STATE;
        }
        return p == null || r < 0 || r > 31 ? NONE : p.x[r];
    }

    int memory(int address) {
        if (address < 0x10000 || address > 0x2FFFF) {
            return NONE;
        }
        writeControls();
        return cells[address] & 255;
    }

    void writeControls() {
        for (Proc p : procs) {
            writeControl(p);
        }
    }

    int entry(int process, int k, int what) {
        Proc p = find(process);
        if (!on) {
            return STATE;
        }
        if (p == null || k < 0 || k > 15) {
            return NONE;
        }
        return what < 0 || what > 1 ? OUTSIDE : plan(p)[k][what];
    }

    int upcall(int process, int k, int what) {
        Proc p = find(process);
        if (!on) {
            return STATE;
        }
        if (p == null || k < 0 || k >= p.waiting.size()) {
            return NONE;
        }
        return what < 0 || what > 4 ? OUTSIDE : p.waiting.get(k)[what];
    }

    int grant(int process, int driver) {
        Proc p = find(process);
        if (!on) {
            return STATE;
        }
        return p == null ? NONE : p.grants.getOrDefault(driver, NONE);
    }

    int out(int i) {
        return i < 0 || i >= Math.min(4000, drivers.out.size()) ? NONE : drivers.out.get(i);
    }

    int lamp(int k) {
        return k < 0 || k > 3 ? NONE : drivers.lamps[k] ? 1 : 0;
    }

    int event(int k, int what) {
        if (k < 0 || k >= events.size()) {
            return NONE;
        }
        return what < 0 || what > 3 ? OUTSIDE : events.get(k)[what];
    }

    int stored(int number, int key, int i) {
        return store.told(number, key, i);
    }
}

import java.util.Arrays;

/**
 * A small board with a kernel. The parts named in comments ("part 5") are those of the document.
 * Nothing is allocated after the constructor: every row is made once and used again.
 */
public final class GrantBoard {
    public static final int NONE = -1, OUTSIDE = -2, STATE = -3, LOST = -4;

    private static final int FLASH_START = 0x10000;
    private static final int STORE_START = 0x1F000;
    private static final int RAM_START = 0x20000;
    private static final int RAM_END = 0x30000;
    private static final int TAPE_MOST = 8192;
    private static final int CONTROL_SIZE = 64;

    private static final int READY = 1, WAITS = 2, WAITS_FOR = 3, ENDED = 4, FAULTED = 5;

    private static final int BUSY = 2, ALREADY = 3, INVALID = 6, SIZE = 7, CANCEL = 8;
    private static final int NO_MEMORY = 9, NO_SUPPORT = 10, NO_DEVICE = 11;

    private static final int ALARM = 0, CONSOLE = 1, LAMPS = 2, BUTTONS = 3, RANDOM = 4;
    private static final int STORE = 5, SAMPLER = 6, POST = 7, SUMS = 8;
    private static final int DRIVERS = 9;

    private static final int[] SUBSCRIPTIONS = {1, 3, 0, 1, 1, 1, 1, 1, 0};
    private static final int[] READ_BUFFERS = {0, 2, 0, 0, 0, 1, 0, 1, 1};
    private static final int[] WRITE_BUFFERS = {0, 2, 0, 0, 1, 1, 0, 1, 0};
    private static final int[] OWN_WORDS = {3, 4, 0, 1, 0, 0, 3, 1, 0};
    /** Bit c is set where the driver has command c. */
    private static final int[] COMMANDS = {0x6E, 14, 14, 14, 2, 14, 14, 14, 2};
    /** What command 0 tells with OK1; 0 where it is a bare OK. */
    private static final int[] HOW_MANY = {0, 0, 4, 4, 0, 0, 2, 0, 0};

    private final Cells cells;
    private final Journal journal;
    private final Store store;
    private final Kernel kernel;
    private final Scheduler scheduler;
    private final Machine machine;
    private final Drivers drivers;
    private final SystemCalls calls;
    private final byte[] tape;
    private int tapeLength;
    private boolean on;

    public GrantBoard() {
        cells = new Cells();
        journal = new Journal();
        store = new Store(cells, journal);
        kernel = new Kernel(cells, journal);
        scheduler = new Scheduler(kernel, journal);
        machine = new Machine(cells);
        drivers = new Drivers(cells, journal, kernel, store);
        calls = new SystemCalls(cells, journal, kernel);
        tape = new byte[TAPE_MOST];
    }

    // ---- the maker

    public int feed(int a, int b, int c, int d, int e) {
        if (tapeLength + 20 > TAPE_MOST) {
            return NONE;
        }
        addToTape(a);
        addToTape(b);
        addToTape(c);
        addToTape(d);
        addToTape(e);
        return tapeLength;
    }

    public int end(int n) {
        if (n < 0 || n > tapeLength) {
            return OUTSIDE;
        }
        tapeLength = n;
        return n;
    }

    public int burn(int address) {
        int n = tapeLength;
        tapeLength = 0;
        if (on) {
            return STATE;
        }
        if (address < FLASH_START || address > RAM_START || n > RAM_START - address) {
            return OUTSIDE;
        }
        for (int i = 0; i < n && i < tape.length; i++) {
            cells.setByte(address + i, tape[i]);
        }
        return n;
    }

    public int boot(int scheduler, int slice, int limit, boolean strict, int seed) {
        if (on) {
            return STATE;
        }
        if (scheduler < 0 || scheduler > 2 || slice < 1 || slice > 1000 || limit < 0 || limit > 100) {
            return OUTSIDE;
        }
        drivers.wake(seed);
        store.open();
        if (store.lost) {
            powerDown();
            return LOST;
        }
        on = true;
        this.scheduler.reset(scheduler, slice);
        kernel.limit = limit;
        kernel.load(strict);
        return kernel.count;
    }

    public int off() {
        if (!on) {
            return STATE;
        }
        powerDown();
        return 1;
    }

    public int cut(int n) {
        if (n < NONE || n > 10000) {
            return OUTSIDE;
        }
        store.writesLeft = n;
        return 1;
    }

    // ---- the world

    public int run(int n) {
        if (!on) {
            return STATE;
        }
        if (n < 1 || n > 20000) {
            return OUTSIDE;
        }
        for (int i = 0; i < n; i++) {
            journal.time++;
            drivers.tick();
            Process p = scheduler.choose();
            if (p != null) {
                journal.counts[Journal.INSTRUCTIONS]++;
                int outcome = machine.step(p);
                if (outcome == Machine.CALLED) {
                    int driver = calls.serve(p);
                    if (driver != NONE) {
                        drivers.obey(p, driver);
                    }
                } else if (outcome == Machine.FAILED) {
                    kernel.takeFault(p, machine.fault, machine.value);
                }
            }
            if (store.lost) {
                powerDown();
                return LOST;
            }
        }
        return n;
    }

    public int press(int button, boolean down) {
        if (button < 0 || button > 3) {
            return OUTSIDE;
        }
        return drivers.moveButton(button, down) ? 1 : 0;
    }

    public int type(int b) {
        if (!on) {
            return STATE;
        }
        if (b < 0 || b > 255) {
            return OUTSIDE;
        }
        return drivers.takeTyped(b) ? 1 : 0;
    }

    public int level(int channel, int v) {
        if (channel < 0 || channel > 1) {
            return OUTSIDE;
        }
        drivers.levels[channel] = v;
        return 1;
    }

    public int hold(int process, boolean on) {
        if (!this.on) {
            return STATE;
        }
        Process p = kernel.find(process);
        if (p == null) {
            return NONE;
        }
        if (p.held == on) {
            return 0;
        }
        p.held = on;
        return 1;
    }

    public int restart(int process) {
        if (!on) {
            return STATE;
        }
        Process p = kernel.find(process);
        if (p == null) {
            return NONE;
        }
        kernel.startAgain(p);
        return 1;
    }

    // ---- what is told

    public int count(int what) {
        switch (what) {
            case 0:
                return on ? 1 : 0;
            case 1:
                return kernel.count;
            case 2:
                return journal.time;
            default:
                return what > 2 && what < journal.counts.length ? journal.counts[what] : OUTSIDE;
        }
    }

    public int process(int process, int what) {
        if (!on) {
            return STATE;
        }
        Process p = kernel.find(process);
        if (p == null) {
            return NONE;
        }
        switch (what) {
            case 12:
                return scheduler.levels[p.number];
            case 14:
                return scheduler.turn == p.number ? 1 : 0;
            default:
                return what < 0 || what > 14 ? OUTSIDE : p.tell(what);
        }
    }

    public int register(int process, int r) {
        if (!on) {
            return STATE;
        }
        Process p = kernel.find(process);
        return p == null || r < 0 || r > 31 ? NONE : p.registers[r];
    }

    public int memory(int address) {
        if (address < FLASH_START || address >= RAM_END) {
            return NONE;
        }
        if (address >= RAM_START) {
            kernel.writeControls();
        }
        return cells.getByte(address);
    }

    public int entry(int process, int k, int what) {
        if (!on) {
            return STATE;
        }
        Process p = kernel.find(process);
        if (p == null || k < 0 || k > 15) {
            return NONE;
        }
        if (what < 0 || what > 1) {
            return OUTSIDE;
        }
        kernel.makePlan(p);
        return what == 0 ? kernel.entryAddresses[k] : kernel.entryConfigurations[k];
    }

    public int upcall(int process, int k, int what) {
        if (!on) {
            return STATE;
        }
        Process p = kernel.find(process);
        if (p == null || k < 0 || k >= p.queued) {
            return NONE;
        }
        if (what < 0 || what > 4) {
            return OUTSIDE;
        }
        return p.queue[k * Process.UPCALL_WORDS + what];
    }

    public int grant(int process, int driver) {
        if (!on) {
            return STATE;
        }
        Process p = kernel.find(process);
        if (p == null || driver < 0 || driver >= DRIVERS || p.grants[driver] == 0) {
            return NONE;
        }
        return p.grants[driver];
    }

    public int out(int i) {
        return drivers.tellOut(i);
    }

    public int lamp(int k) {
        return k < 0 || k > 3 ? NONE : drivers.lamps >>> k & 1;
    }

    public int event(int k, int what) {
        return journal.tell(k, what);
    }

    public int stored(int number, int key, int i) {
        return store.tell(number, key, i);
    }

    public int audit() {
        int wrong = 0;
        for (int i = 0; i < kernel.count; i++) {
            wrong += kernel.countBreaches(kernel.processes[i]);
        }
        return wrong;
    }

    private void addToTape(int word) {
        for (int shift = 24; shift >= 0 && tapeLength < tape.length; shift -= 8) {
            tape[tapeLength] = (byte) (word >>> shift);
            tapeLength++;
        }
    }

    private void powerDown() {
        on = false;
        store.lost = false;
        journal.time = 0;
        kernel.count = 0;
        cells.fill(RAM_START, RAM_END - RAM_START, 0);
    }

    /** Whether a is below b, both without sign. */
    private static boolean below(int a, int b) {
        return (a ^ 0x80000000) < (b ^ 0x80000000);
    }

    /** The smaller of what is asked for (without sign) and what a buffer has. */
    private static int atMost(int asked, int has) {
        return below(asked, has) ? asked : has;
    }

    /** Whether size bytes (without sign, not 0) from an address on lie in from .. to. */
    private static boolean liesIn(int address, int size, int from, int to) {
        return address >= from && address < to && size > 0 && size <= to - address;
    }

    private static int roundUp(int n) {
        return (n + 3) & -4;
    }

    /** FLASH and RAM lie one behind the other: one row of words, lowest byte first, holds both. */
    private static final class Cells {
        final int[] words = new int[(RAM_END - FLASH_START) / 4];
        final int[] crcRow = new int[256];

        Cells() {
            Arrays.fill(words, 0, (RAM_START - FLASH_START) / 4, -1);
            for (int i = 0; i < crcRow.length; i++) {
                int c = i;
                for (int bit = 0; bit < 8; bit++) {
                    c = (c & 1) != 0 ? c >>> 1 ^ 0xEDB88320 : c >>> 1;
                }
                crcRow[i] = c;
            }
        }

        int getWord(int address) {
            if (address < FLASH_START || address >= RAM_END) {
                return 0;
            }
            return words[(address - FLASH_START) >> 2];
        }

        void setWord(int address, int v) {
            if (address >= FLASH_START && address < RAM_END) {
                words[(address - FLASH_START) >> 2] = v;
            }
        }

        int getHalf(int address) {
            if (address < FLASH_START || address >= RAM_END) {
                return 0;
            }
            return words[(address - FLASH_START) >> 2] >>> ((address & 2) << 3) & 0xFFFF;
        }

        void setHalf(int address, int v) {
            if (address >= FLASH_START && address < RAM_END) {
                int i = (address - FLASH_START) >> 2;
                int shift = (address & 2) << 3;
                words[i] = words[i] & ~(0xFFFF << shift) | (v & 0xFFFF) << shift;
            }
        }

        int getByte(int address) {
            if (address < FLASH_START || address >= RAM_END) {
                return 0;
            }
            return words[(address - FLASH_START) >> 2] >>> ((address & 3) << 3) & 255;
        }

        void setByte(int address, int v) {
            if (address >= FLASH_START && address < RAM_END) {
                int i = (address - FLASH_START) >> 2;
                int shift = (address & 3) << 3;
                words[i] = words[i] & ~(255 << shift) | (v & 255) << shift;
            }
        }

        /** Address and size are multiples of 4. */
        void fill(int address, int size, int v) {
            if (size > 0 && address >= FLASH_START && address < RAM_END && size <= RAM_END - address) {
                int from = (address - FLASH_START) >> 2;
                Arrays.fill(words, from, from + (size >> 2), v);
            }
        }

        void copy(int from, int to, int n) {
            for (int i = 0; i < n; i++) {
                setByte(to + i, getByte(from + i));
            }
        }

        boolean sameBytes(int one, int other, int n) {
            for (int i = 0; i < n; i++) {
                if (getByte(one + i) != getByte(other + i)) {
                    return false;
                }
            }
            return true;
        }

        int crc(int address, int n) {
            int c = -1;
            for (int i = 0; i < n; i++) {
                c = c >>> 8 ^ crcRow[(c ^ getByte(address + i)) & 255];
            }
            return ~c;
        }
    }

    /** The time, the counts that outlive power, and the latest events. */
    private static final class Journal {
        static final int BYTES_OUT = 3, FLASH_WRITES = 4, INSTRUCTIONS = 10, EVENTS = 11;
        static final int CALL = 0, UPCALL = 1, FAULT = 2, AGAIN = 3, END = 4, DROP = 5;
        static final int KEPT = 200;
        /** Which of the counts an event of each kind belongs to; 0: none. */
        static final int[] COUNT_OF = {5, 6, 7, 8, 0, 9};

        int time;
        final int[] counts = new int[12];
        final int[] events = new int[KEPT * 4];
        int next;
        int kept;

        void note(int process, int kind, int number) {
            int at = next * 4;
            events[at] = time;
            events[at + 1] = process;
            events[at + 2] = kind;
            events[at + 3] = number;
            next = next + 1 < KEPT ? next + 1 : 0;
            kept = kept < KEPT ? kept + 1 : KEPT;
            counts[EVENTS]++;
            if (COUNT_OF[kind] != 0) {
                counts[COUNT_OF[kind]]++;
            }
        }

        int tell(int k, int what) {
            if (k < 0 || k >= kept) {
                return NONE;
            }
            if (what < 0 || what > 3) {
                return OUTSIDE;
            }
            int i = next - 1 - k;
            return events[(i < 0 ? i + KEPT : i) * 4 + what];
        }
    }

    /** Keys and values in two banks of flash (part 8), and the power that may go at a flash write. */
    private static final class Store {
        static final int BANK_SIZE = 2048;
        static final int MARK = 0x4B560000;
        static final int NO_VALUE = 255;
        static final int LEAST_RECORD = 16;

        final Cells cells;
        final Journal journal;
        /** The address of the bank that counts; 0 before the first boot. */
        int bank;
        /** How many flash writes are done before power goes; NONE: it stays. */
        int writesLeft = NONE;
        /** Power went: nothing is written any more until the board has noticed. */
        boolean lost;
        final int[] records = new int[BANK_SIZE / LEAST_RECORD];
        int recordCount;
        int recordsEnd;

        Store(Cells cells, Journal journal) {
            this.cells = cells;
            this.journal = journal;
        }

        void open() {
            int first = STORE_START;
            int second = STORE_START + BANK_SIZE;
            boolean firstGood = (cells.getWord(first) & 0xFFFF0000) == MARK;
            boolean secondGood = (cells.getWord(second) & 0xFFFF0000) == MARK;
            int ahead = (cells.getWord(second) - cells.getWord(first)) & 0xFFFF;
            boolean secondNewer = ahead >= 1 && ahead <= 32767;
            bank = secondGood && (!firstGood || secondNewer) ? second : first;
            if (!firstGood && !secondGood) {
                eraseBank(first);
                putWord(first, MARK);
                return;
            }
            scan();
            if (!isClean()) {
                compact();
            }
        }

        int tell(int number, int key, int i) {
            int record = find(number, key);
            if (record == 0) {
                return NONE;
            }
            int length = cells.getWord(record + 8);
            if (i == NONE) {
                return length;
            }
            return i < 0 || i >= length ? NONE : cells.getByte(record + 12 + i);
        }

        /** The record with the value of a key, or 0. */
        int find(int number, int key) {
            scan();
            for (int i = recordCount - 1; i >= 0; i--) {
                int at = records[i];
                if (cells.getWord(at) == number && cells.getWord(at + 4) == key) {
                    return cells.getWord(at + 8) == NO_VALUE ? 0 : at;
                }
            }
            return 0;
        }

        /** Puts a record whose value lies at an address; false without room. */
        boolean put(int number, int key, int length, int from) {
            if (number == -1) {
                return false;
            }
            int size = sizeFor(length);
            scan();
            if (size > bank + BANK_SIZE - recordsEnd) {
                compact();
                scan();
                if (size > bank + BANK_SIZE - recordsEnd) {
                    return false;
                }
            }
            int at = recordsEnd;
            int check = number ^ key ^ length ^ 0x5A5A5A5A;
            putWord(at, number);
            putWord(at + 4, key);
            putWord(at + 8, length);
            for (int i = 0; i < size - LEAST_RECORD; i += 4) {
                int word = valueWord(from + i, length - i);
                check ^= word;
                putWord(at + 12 + i, word);
            }
            putWord(at + size - 4, check == -1 ? 0 : check);
            return true;
        }

        private int valueWord(int from, int left) {
            int word = 0;
            for (int i = 0; i < 4 && i < left; i++) {
                word |= cells.getByte(from + i) << (i << 3);
            }
            return word;
        }

        private static int sizeFor(int length) {
            return LEAST_RECORD + (length == NO_VALUE ? 0 : length + 3 & -4);
        }

        /** Finds the records of the bank that counts; burn() may have changed them since. */
        private void scan() {
            recordCount = 0;
            recordsEnd = bank + 4;
            if (bank == 0) {
                return;
            }
            for (int i = 0; i < records.length; i++) {
                int size = recordSize(recordsEnd);
                if (size == 0) {
                    return;
                }
                records[i] = recordsEnd;
                recordCount = i + 1;
                recordsEnd += size;
            }
        }

        /** The size of the record at an address; 0 where none is, so that the end is there. */
        private int recordSize(int at) {
            int left = bank + BANK_SIZE - at;
            if (left < LEAST_RECORD || cells.getWord(at) == -1) {
                return 0;
            }
            int length = cells.getWord(at + 8);
            if (length != NO_VALUE && (length < 0 || length > 32)) {
                return 0;
            }
            int size = sizeFor(length);
            if (size > left) {
                return 0;
            }
            int check = 0x5A5A5A5A;
            for (int i = 0; i < size - 4; i += 4) {
                check ^= cells.getWord(at + i);
            }
            return cells.getWord(at + size - 4) == (check == -1 ? 0 : check) ? size : 0;
        }

        private boolean isClean() {
            for (int at = recordsEnd; at < bank + BANK_SIZE; at += 4) {
                if (cells.getWord(at) != -1) {
                    return false;
                }
            }
            return true;
        }

        /** Works on the records that the latest scan found. */
        private void compact() {
            int other = bank == STORE_START ? STORE_START + BANK_SIZE : STORE_START;
            eraseBank(other);
            int to = other + 4;
            for (int i = 0; i < recordCount; i++) {
                int at = records[i];
                int length = cells.getWord(at + 8);
                if (length != NO_VALUE && isLatest(i)) {
                    int size = sizeFor(length);
                    for (int j = 0; j < size; j += 4) {
                        putWord(to + j, cells.getWord(at + j));
                    }
                    to += size;
                }
            }
            putWord(other, MARK | (cells.getWord(bank) + 1 & 0xFFFF));
            if (!lost) {
                bank = other;
            }
        }

        private boolean isLatest(int i) {
            int number = cells.getWord(records[i]);
            int key = cells.getWord(records[i] + 4);
            for (int j = i + 1; j < recordCount; j++) {
                if (cells.getWord(records[j]) == number && cells.getWord(records[j] + 4) == key) {
                    return false;
                }
            }
            return true;
        }

        private void putWord(int address, int v) {
            if (!lost && spendWrite()) {
                cells.setWord(address, v);
            }
        }

        private void eraseBank(int address) {
            if (!lost) {
                int n = spendWrite() ? BANK_SIZE : BANK_SIZE / 2;
                for (int i = 0; i < n; i += 4) {
                    cells.setWord(address + i, -1);
                }
            }
        }

        private boolean spendWrite() {
            if (writesLeft == 0) {
                writesLeft = NONE;
                lost = true;
                return false;
            }
            if (writesLeft > 0) {
                writesLeft--;
            }
            journal.counts[Journal.FLASH_WRITES]++;
            return true;
        }
    }

    /** What the head of an app says (part 3). */
    private static final class AppHead {
        static final int LEAST = 16;
        static final int MOST_APPS = (STORE_START - FLASH_START) / LEAST;
        static final int MOST_ELEMENTS = 124;
        static final int MOST_RAM = 15872;

        final Cells cells;
        int address;
        int size;
        int total;
        int start;
        int ram;
        int binaryEnd;
        int version;
        /** Where the counting elements of types 1, 9, 3, 7, 8 have their bytes; 0: there is none. */
        int mainAt;
        int programAt;
        int nameAt;
        int nameLength;
        int storeAt;
        int permissionsAt;
        int permissionsLength;

        AppHead(Cells cells) {
            this.cells = cells;
        }

        /** False where there are no more apps. */
        boolean readFrame(int at) {
            if (STORE_START - at < LEAST) {
                return false;
            }
            address = at;
            size = cells.getHalf(at + 2);
            total = cells.getWord(at + 4);
            boolean sized = size >= LEAST && size <= 512 && (size & 3) == 0;
            boolean fits = (total & 3) == 0 && total >= size && total <= STORE_START - at;
            return cells.getHalf(at) == 2 && sized && fits;
        }

        /** False for an app that is passed over. */
        boolean readRest() {
            int check = 0;
            for (int i = 0; i < size; i += 4) {
                check ^= cells.getWord(address + i);
            }
            boolean enabled = (cells.getWord(address + 8) & 1) == 1;
            if (check != 0 || !enabled || !readElements()) {
                return false;
            }
            int at = programAt != 0 ? programAt : mainAt;
            start = cells.getWord(at);
            ram = cells.getWord(at + 8);
            binaryEnd = programAt != 0 ? cells.getWord(at + 12) : total;
            version = programAt != 0 ? cells.getWord(at + 16) : 0;
            return at != 0;
        }

        private boolean readElements() {
            mainAt = 0;
            programAt = 0;
            nameAt = 0;
            storeAt = 0;
            permissionsAt = 0;
            int at = LEAST;
            for (int i = 0; i < MOST_ELEMENTS && at < size; i++) {
                int length = cells.getHalf(address + at + 2);
                int next = at + 4 + roundUp(length);
                if (next > size) {
                    return false;
                }
                takeElement(cells.getHalf(address + at), length, address + at + 4);
                at = next;
            }
            return true;
        }

        private void takeElement(int type, int length, int at) {
            if (type == 1 && length == 12 && mainAt == 0) {
                mainAt = at;
            } else if (type == 9 && length == 20 && programAt == 0) {
                programAt = at;
            } else if (type == 3 && length >= 1 && length <= 16 && nameAt == 0) {
                nameAt = at;
                nameLength = length;
            } else if (type == 7 && length == 4 && storeAt == 0) {
                storeAt = at;
            } else if (type == 8 && length >= 8 && length <= 64 && (length & 7) == 0 && permissionsAt == 0) {
                permissionsAt = at;
                permissionsLength = length;
            }
        }

        boolean hasCredentials() {
            if ((binaryEnd & 3) != 0 || binaryEnd < size || binaryEnd > total - 12) {
                return false;
            }
            int at = address + binaryEnd;
            boolean marked = cells.getHalf(at) == 128 && cells.getHalf(at + 2) == 8 && cells.getWord(at + 4) == 1;
            return marked && cells.getWord(at + 8) == cells.crc(address, binaryEnd);
        }

        boolean mayLoad(boolean strict) {
            return ram >= 0 && ram <= MOST_RAM && (!strict || hasCredentials());
        }

        boolean hasName(int at, int length) {
            return nameAt != 0 && nameLength == length && cells.sameBytes(nameAt, at, length);
        }

        /** Whether this app is to be loaded in place of another one of the same name. */
        boolean goesBefore(AppHead other) {
            if (address == other.address) {
                return false;
            }
            if (version == other.version) {
                return address < other.address;
            }
            return below(other.version, version);
        }

        boolean permits(int driver, int command) {
            if (permissionsAt == 0 || command == 0) {
                return true;
            }
            if (command < 0 || command > 31) {
                return false;
            }
            for (int i = 0; i < permissionsLength; i += 8) {
                int bits = cells.getWord(permissionsAt + i + 4);
                if (cells.getWord(permissionsAt + i) == driver && (bits >>> command & 1) == 1) {
                    return true;
                }
            }
            return false;
        }

        int blockSize() {
            int block = 1024;
            for (int i = 0; i < 5 && block < ram + 512; i++) {
                block *= 2;
            }
            return block;
        }
    }

    private static final class Process {
        static final int MOST_UPCALLS = 10;
        static final int UPCALL_WORDS = 5;
        /** No word has an odd address, so this one is never reserved. */
        static final int NOT_RESERVED = 1;

        final int number;
        final AppHead app;
        final int[] registers = new int[32];
        int pc;
        int reserved;
        int base;
        int size;
        int breakAt;
        int lowest;
        int state;
        boolean held;
        int code;
        int restarts;
        /** The upcalls that wait: driver, number and three numbers each. */
        final int[] queue = new int[MOST_UPCALLS * UPCALL_WORDS];
        int queued;
        int awaitedDriver;
        int awaitedNumber;
        /** The address of each driver's grant; 0: none. */
        final int[] grants = new int[DRIVERS];
        int grantCount;

        Process(int number, AppHead app) {
            this.number = number;
            this.app = app;
        }

        void settle(int base, int size) {
            this.base = base;
            this.size = size;
            held = false;
            restarts = 0;
        }

        /** All of STARTING but what lies in RAM. */
        void reset() {
            breakAt = base + roundUp(app.ram);
            lowest = control();
            Arrays.fill(grants, 0);
            grantCount = 0;
            queued = 0;
            Arrays.fill(registers, 0);
            registers[2] = breakAt;
            registers[10] = app.address + app.size;
            registers[11] = base;
            registers[12] = size;
            registers[13] = breakAt;
            pc = registers[10] + app.start & -2;
            reserved = NOT_RESERVED;
            state = READY;
            code = 0;
        }

        int control() {
            return base + size - CONTROL_SIZE;
        }

        boolean canRun() {
            return state == READY && !held;
        }

        boolean isOver() {
            return state == ENDED || state == FAULTED;
        }

        boolean ownsRam(int address) {
            return address >= base && address < breakAt;
        }

        boolean ownsApp(int address) {
            return address >= app.address && address < app.address + app.total;
        }

        int stateTold() {
            return held ? state + 8 : state;
        }

        int tell(int what) {
            switch (what) {
                case 0:
                    return stateTold();
                case 1:
                    return pc;
                case 2:
                    return app.address;
                case 3:
                    return app.total;
                case 4:
                    return base;
                case 5:
                    return size;
                case 6:
                    return breakAt;
                case 7:
                    return lowest;
                case 8:
                    return restarts;
                case 9:
                    return queued;
                case 10:
                    return grantCount;
                case 11:
                    return code;
                default:
                    return app.version;
            }
        }

        void fail(int error) {
            registers[10] = 0;
            registers[11] = error;
        }

        /** FAIL2 with a2 and a3 as they are. */
        void failBack(int error) {
            registers[10] = 2;
            registers[11] = error;
        }

        void ok() {
            registers[10] = 128;
        }

        void ok1(int v) {
            registers[10] = 129;
            registers[11] = v;
        }

        void ok2(int v, int w) {
            registers[10] = 130;
            registers[11] = v;
            registers[12] = w;
        }

        void addUpcall(int driver, int number, int a, int b, int c) {
            if (queued < MOST_UPCALLS) {
                int at = queued * UPCALL_WORDS;
                queue[at] = driver;
                queue[at + 1] = number;
                queue[at + 2] = a;
                queue[at + 3] = b;
                queue[at + 4] = c;
                queued++;
            }
        }

        /** Where in the row the first upcall of a driver and number waits; NONE: nowhere. */
        int findUpcall(int driver, int number) {
            for (int k = 0; k < queued; k++) {
                int at = k * UPCALL_WORDS;
                if (queue[at] == driver && queue[at + 1] == number) {
                    return k;
                }
            }
            return NONE;
        }

        void removeUpcall(int k) {
            if (k >= 0 && k < queued) {
                int at = k * UPCALL_WORDS;
                int behind = at + UPCALL_WORDS;
                System.arraycopy(queue, behind, queue, at, queued * UPCALL_WORDS - behind);
                queued--;
            }
        }

        void removeUpcalls(int driver, int number) {
            for (int k = queued - 1; k >= 0; k--) {
                int at = k * UPCALL_WORDS;
                if (queue[at] == driver && queue[at + 1] == number) {
                    removeUpcall(k);
                }
            }
        }
    }

    /** Processes: how they are loaded, started and stopped; their grants, upcalls and entries. */
    private static final class Kernel {
        static final int MOST_PROCESSES = 8;
        static final int FAULT_WORDS = 24, DROPPED_WORD = 40;
        static final int ENTRIES = 16;
        static final int READ = 1, WRITE = 2, EXECUTE = 4;

        final Cells cells;
        final Journal journal;
        final Process[] processes = new Process[MOST_PROCESSES];
        final AppHead rival;
        /** The sixteen entries of the process that was asked for last, as its PLAN has them. */
        final int[] entryAddresses = new int[ENTRIES];
        final int[] entryConfigurations = new int[ENTRIES];
        int entriesUsed;
        int count;
        int limit;

        Kernel(Cells cells, Journal journal) {
            this.cells = cells;
            this.journal = journal;
            rival = new AppHead(cells);
            for (int i = 0; i < MOST_PROCESSES; i++) {
                processes[i] = new Process(i, new AppHead(cells));
            }
        }

        Process find(int number) {
            return number < 0 || number >= count ? null : processes[number];
        }

        /** Each head is read into the process that it may become. */
        void load(boolean strict) {
            int at = FLASH_START;
            int free = RAM_START;
            for (int i = 0; i < AppHead.MOST_APPS && count < MOST_PROCESSES; i++) {
                Process p = processes[count];
                AppHead app = p.app;
                if (!app.readFrame(at)) {
                    return;
                }
                at += app.total;
                if (app.readRest() && app.mayLoad(strict) && !isOutdone(app, strict)) {
                    int size = app.blockSize();
                    int base = free + size - 1 & -size;
                    if (size <= RAM_END - base) {
                        p.settle(base, size);
                        start(p);
                        free = base + size;
                        count++;
                    }
                }
            }
        }

        private boolean isOutdone(AppHead app, boolean strict) {
            if (app.nameAt == 0) {
                return false;
            }
            int at = FLASH_START;
            for (int i = 0; i < AppHead.MOST_APPS && rival.readFrame(at); i++) {
                at += rival.total;
                if (rival.readRest() && rival.hasName(app.nameAt, app.nameLength)
                        && rival.goesBefore(app) && rival.mayLoad(strict)) {
                    return true;
                }
            }
            return false;
        }

        void start(Process p) {
            cells.fill(p.base, p.size - CONTROL_SIZE, 0);
            p.reset();
        }

        void startAgain(Process p) {
            start(p);
            p.restarts++;
            journal.note(p.number, Journal.AGAIN, p.restarts);
        }

        void takeFault(Process p, int fault, int value) {
            int at = p.control() + FAULT_WORDS;
            cells.setWord(at, 1 + fault);
            cells.setWord(at + 4, value);
            cells.setWord(at + 8, p.pc);
            journal.note(p.number, Journal.FAULT, fault);
            if (p.restarts < limit) {
                startAgain(p);
            } else {
                stop(p, FAULTED);
            }
        }

        void endWith(Process p, int code) {
            p.code = code;
            journal.note(p.number, Journal.END, code);
            stop(p, ENDED);
        }

        /** Nothing stays under way for a process that is over, so that no driver has to ask. */
        private void stop(Process p, int state) {
            p.state = state;
            p.queued = 0;
            for (int driver = 0; driver < DRIVERS; driver++) {
                cells.fill(ownAt(p, driver), OWN_WORDS[driver] * 4, 0);
            }
        }

        /** An upcall comes for a process (part 5). */
        void send(Process p, int driver, int number, int a, int b, int c) {
            if (p.isOver()) {
                return;
            }
            if (p.state == WAITS_FOR && p.awaitedDriver == driver && p.awaitedNumber == number) {
                give(p, driver, number, a, b, c);
            } else if (cells.getWord(subscriptionAt(p, driver, number)) == 0) {
                return;
            } else if (p.state == WAITS) {
                give(p, driver, number, a, b, c);
                enter(p, driver, number);
            } else if (p.queued < Process.MOST_UPCALLS) {
                p.addUpcall(driver, number, a, b, c);
            } else {
                int at = p.control() + DROPPED_WORD;
                cells.setWord(at, cells.getWord(at) + 1);
                journal.note(p.number, Journal.DROP, 16 * driver + number);
            }
        }

        void giveWaiting(Process p, int k) {
            int[] q = p.queue;
            int at = k * Process.UPCALL_WORDS;
            if (k >= 0 && k < p.queued) {
                give(p, q[at], q[at + 1], q[at + 2], q[at + 3], q[at + 4]);
                p.removeUpcall(k);
            }
        }

        void runFirst(Process p) {
            int driver = p.queue[0];
            int number = p.queue[1];
            giveWaiting(p, 0);
            enter(p, driver, number);
        }

        private void give(Process p, int driver, int number, int a, int b, int c) {
            p.registers[10] = a;
            p.registers[11] = b;
            p.registers[12] = c;
            p.reserved = Process.NOT_RESERVED;
            p.state = READY;
            journal.note(p.number, Journal.UPCALL, 16 * driver + number);
        }

        /** Running an upcall is giving it and going on in its function. */
        private void enter(Process p, int driver, int number) {
            int at = subscriptionAt(p, driver, number);
            p.registers[1] = p.pc;
            p.registers[13] = cells.getWord(at + 4);
            p.pc = cells.getWord(at);
        }

        /** Makes the grant if the driver has one and it is not there yet; false without memory. */
        boolean reachGrant(Process p, int driver) {
            if (driver == LAMPS || p.grants[driver] != 0) {
                return true;
            }
            int size = grantSize(driver);
            int at = p.lowest - size;
            if (at < p.breakAt) {
                return false;
            }
            cells.fill(at, size, 0);
            cells.setWord(at, driver);
            cells.setWord(at + 4, p.grantCount == 0 ? 0 : p.lowest);
            p.lowest = at;
            p.grants[driver] = at;
            p.grantCount++;
            return true;
        }

        private static int grantSize(int driver) {
            int pairs = 1 + SUBSCRIPTIONS[driver] + READ_BUFFERS[driver] + WRITE_BUFFERS[driver];
            return 8 * pairs + 4 * OWN_WORDS[driver];
        }

        /** These four answer an address outside of all memory, where words are 0, without a grant. */
        int subscriptionAt(Process p, int driver, int number) {
            return p.grants[driver] + 8 * (1 + number);
        }

        int readBufferAt(Process p, int driver, int k) {
            return p.grants[driver] + 8 * (1 + SUBSCRIPTIONS[driver] + k);
        }

        int writeBufferAt(Process p, int driver, int k) {
            return p.grants[driver] + 8 * (1 + SUBSCRIPTIONS[driver] + READ_BUFFERS[driver] + k);
        }

        int ownAt(Process p, int driver) {
            int pairs = 1 + SUBSCRIPTIONS[driver] + READ_BUFFERS[driver] + WRITE_BUFFERS[driver];
            return p.grants[driver] + 8 * pairs;
        }

        /** Where the last buffer in RAM ends; the break may not go below it. */
        int buffersEnd(Process p) {
            int end = p.base;
            for (int driver = 0; driver < DRIVERS; driver++) {
                int buffers = READ_BUFFERS[driver] + WRITE_BUFFERS[driver];
                for (int k = 0; k < buffers; k++) {
                    int at = readBufferAt(p, driver, k);
                    int address = cells.getWord(at);
                    int size = cells.getWord(at + 4);
                    if (size > 0 && address >= RAM_START) {
                        end = Math.max(end, address + size);
                    }
                }
            }
            return end;
        }

        /** CONTROL is out of every process's reach, so it is enough to write it when it is looked at. */
        void writeControls() {
            for (int i = 0; i < count; i++) {
                Process p = processes[i];
                int at = p.control();
                cells.setWord(at, p.number);
                cells.setWord(at + 4, p.app.address);
                cells.setWord(at + 8, p.breakAt);
                cells.setWord(at + 12, p.lowest);
                cells.setWord(at + 16, p.restarts);
                cells.setWord(at + 20, p.queued);
                cells.setWord(at + 36, p.stateTold());
            }
        }

        int countBreaches(Process p) {
            boolean ordered = p.base <= p.breakAt && p.breakAt <= p.lowest && p.lowest <= p.control();
            int wrong = ordered ? 0 : 1;
            wrong += blockStandsAlone(p) ? 0 : 1;
            wrong += grantsLieInOrder(p) ? 0 : 1;
            wrong += buffersLieInside(p) ? 0 : 1;
            wrong += entriesAllowJust(p) ? 0 : 1;
            return wrong;
        }

        void makePlan(Process p) {
            Arrays.fill(entryAddresses, 0);
            Arrays.fill(entryConfigurations, 0);
            entriesUsed = 0;
            addRegion(p.app.address, p.app.total, READ | EXECUTE);
            addRegion(p.base, p.breakAt - p.base, READ | WRITE);
        }

        private void addRegion(int address, int size, int rights) {
            if (size == 0) {
                return;
            }
            boolean aligned = (size & size - 1) == 0 && (address & size - 1) == 0;
            if (aligned && size == 4) {
                addEntry(address >> 2, rights | 16);
            } else if (aligned) {
                addEntry(address >> 2 | (size >> 3) - 1, rights | 24);
            } else {
                addEntry(address >> 2, 0);
                addEntry(address + size >> 2, rights | 8);
            }
        }

        private void addEntry(int address, int configuration) {
            if (entriesUsed < ENTRIES) {
                entryAddresses[entriesUsed] = address;
                entryConfigurations[entriesUsed] = configuration;
                entriesUsed++;
            }
        }

        /** Whether the entries, read as the machine would read them, allow just the two regions. */
        private boolean entriesAllowJust(Process p) {
            makePlan(p);
            int apps = 0;
            int rams = 0;
            for (int k = 0; k < ENTRIES; k++) {
                boolean active = entryConfigurations[k] >> 3 != 0;
                int rights = entryConfigurations[k] & 7;
                if (active && rights == (READ | EXECUTE) && entryReaches(k, p.app.address, p.app.total)) {
                    apps++;
                } else if (active && rights == (READ | WRITE) && entryReaches(k, p.base, p.breakAt - p.base)) {
                    rams++;
                } else if (active || rights != 0) {
                    return false;
                }
            }
            return apps == 1 && rams == (p.breakAt > p.base ? 1 : 0);
        }

        private boolean entryReaches(int k, int address, int size) {
            int a = entryAddresses[k];
            int low = a;
            int high = a + 1;
            int mode = entryConfigurations[k] >> 3;
            if (mode == 1) {
                low = k > 0 ? entryAddresses[k - 1] : 0;
                high = a;
            } else if (mode == 3) {
                int ones = a ^ a + 1;
                low = a & ~ones;
                high = low + ones + 1;
            }
            return low << 2 == address && high - low << 2 == size;
        }

        private boolean blockStandsAlone(Process p) {
            for (int i = 0; i < p.number; i++) {
                Process q = processes[i];
                if (p.base < q.base + q.size && q.base < p.base + p.size) {
                    return false;
                }
            }
            return liesIn(p.base, p.size, RAM_START, RAM_END);
        }

        private boolean grantsLieInOrder(Process p) {
            int at = p.lowest;
            for (int i = 0; i < p.grantCount; i++) {
                int driver = cells.getWord(at);
                if (driver < 0 || driver >= DRIVERS || p.grants[driver] != at) {
                    return false;
                }
                int above = at + grantSize(driver);
                if (cells.getWord(at + 4) != (above == p.control() ? 0 : above)) {
                    return false;
                }
                at = above;
            }
            return at == p.control();
        }

        private boolean buffersLieInside(Process p) {
            for (int driver = 0; driver < DRIVERS; driver++) {
                int buffers = READ_BUFFERS[driver] + WRITE_BUFFERS[driver];
                for (int k = 0; k < buffers; k++) {
                    int at = readBufferAt(p, driver, k);
                    boolean writing = k >= READ_BUFFERS[driver];
                    if (!bufferFits(p, cells.getWord(at), cells.getWord(at + 4), writing)) {
                        return false;
                    }
                }
            }
            return true;
        }

        boolean bufferFits(Process p, int address, int size, boolean writing) {
            if (size == 0 || liesIn(address, size, p.base, p.breakAt)) {
                return true;
            }
            return !writing && liesIn(address, size, p.app.address, p.app.address + p.app.total);
        }
    }

    /** Who does the next instruction (part 6). */
    private static final class Scheduler {
        static final int ROUND_ROBIN = 0, PRIORITY = 1;

        final Kernel kernel;
        final Journal journal;
        int kind;
        int slice;
        /** Who has the turn; NONE: nobody. */
        int turn;
        /** How many instructions were done in the turn. */
        int done;
        final int[] levels = new int[Kernel.MOST_PROCESSES];
        final int[] used = new int[Kernel.MOST_PROCESSES];
        final int[] places = new int[Kernel.MOST_PROCESSES];
        int lastPlace;

        Scheduler(Kernel kernel, Journal journal) {
            this.kernel = kernel;
            this.journal = journal;
        }

        void reset(int kind, int slice) {
            this.kind = kind;
            this.slice = slice;
            forget();
        }

        private void forget() {
            turn = NONE;
            done = 0;
            lastPlace = Kernel.MOST_PROCESSES - 1;
            for (int i = 0; i < Kernel.MOST_PROCESSES; i++) {
                levels[i] = 0;
                used[i] = 0;
                places[i] = i;
            }
        }

        /** The process that does an instruction in this tick, or null. */
        Process choose() {
            switch (kind) {
                case ROUND_ROBIN:
                    return chooseNext();
                case PRIORITY:
                    return chooseFirst();
                default:
                    return chooseByLevel();
            }
        }

        private Process chooseNext() {
            Process holder = kernel.find(turn);
            if (holder != null && holder.canRun() && done < slice) {
                done++;
                return holder;
            }
            for (int k = 1; k <= kernel.count; k++) {
                int i = turn + k;
                Process p = kernel.processes[i < kernel.count ? i : i - kernel.count];
                if (p.canRun()) {
                    done = 1;
                    return begin(p);
                }
            }
            return null;
        }

        private Process chooseFirst() {
            for (int i = 0; i < kernel.count; i++) {
                Process p = kernel.processes[i];
                if (p.canRun()) {
                    return p.number == turn ? p : begin(p);
                }
            }
            return null;
        }

        private Process chooseByLevel() {
            if ((journal.time & 0xFFFFFFFFL) % (64L * slice) == 0) {
                forget();
            }
            if (!someCanRun()) {
                return null;
            }
            Process holder = kernel.find(turn);
            if (holder != null) {
                boolean within = used[turn] < slice << levels[turn];
                if (within && holder.canRun()) {
                    used[turn]++;
                    return holder;
                }
                endTurn(within);
            }
            Process p = kernel.processes[leastPlaced()];
            used[p.number]++;
            return begin(p);
        }

        private boolean someCanRun() {
            for (int i = 0; i < kernel.count; i++) {
                if (kernel.processes[i].canRun()) {
                    return true;
                }
            }
            return false;
        }

        private void endTurn(boolean within) {
            if (!within) {
                levels[turn] = Math.min(2, levels[turn] + 1);
                used[turn] = 0;
            }
            lastPlace++;
            places[turn] = lastPlace;
        }

        private int leastPlaced() {
            int best = NONE;
            for (int i = 0; i < kernel.count; i++) {
                if (kernel.processes[i].canRun() && (best == NONE || levels[i] < levels[best]
                        || levels[i] == levels[best] && places[i] < places[best])) {
                    best = i;
                }
            }
            return Math.max(best, 0);
        }

        private Process begin(Process p) {
            turn = p.number;
            p.reserved = Process.NOT_RESERVED;
            return p;
        }
    }

    /** Does one instruction of RV32IMAC for a process (part 2). */
    private static final class Machine {
        static final int DONE = 0, CALLED = 1, FAILED = 2;

        final Cells cells;
        /** Of the latest instruction that failed. */
        int fault;
        int value;

        Machine(Cells cells) {
            this.cells = cells;
        }

        int step(Process p) {
            int pc = p.pc;
            if (!p.ownsApp(pc)) {
                return fail(1, pc);
            }
            int half = cells.getHalf(pc);
            if ((half & 3) != 3) {
                int word = Compressed.expand(half);
                return word == 0 ? fail(2, half) : execute(p, word, pc + 2);
            }
            if (!p.ownsApp(pc + 2)) {
                return fail(1, pc + 2);
            }
            return execute(p, half | cells.getHalf(pc + 2) << 16, pc + 4);
        }

        private int fail(int fault, int value) {
            this.fault = fault;
            this.value = value;
            return FAILED;
        }

        private int execute(Process p, int word, int next) {
            switch (word & 127) {
                case 0x37:
                    return finish(p, word, word & 0xFFFFF000, next);
                case 0x17:
                    return finish(p, word, p.pc + (word & 0xFFFFF000), next);
                case 0x6F:
                    return finish(p, word, next, p.pc + jumpOffset(word));
                case 0x67:
                    return jumpToRegister(p, word, next);
                case 0x63:
                    return branch(p, word, next);
                case 0x03:
                    return load(p, word, next);
                case 0x23:
                    return save(p, word, next);
                case 0x13:
                    return operateImmediate(p, word, next);
                case 0x33:
                    return operate(p, word, next);
                case 0x2F:
                    return doAtomic(p, word, next);
                case 0x0F:
                    return fence(p, word, next);
                case 0x73:
                    return callKernel(p, word, next);
                default:
                    return fail(2, word);
            }
        }

        private static int finish(Process p, int word, int v, int next) {
            int rd = word >>> 7 & 31;
            if (rd != 0) {
                p.registers[rd] = v;
            }
            p.pc = next;
            return DONE;
        }

        private static int kindOf(int word) {
            return word >>> 12 & 7;
        }

        private static int first(Process p, int word) {
            return p.registers[word >>> 15 & 31];
        }

        private static int second(Process p, int word) {
            return p.registers[word >>> 20 & 31];
        }

        private static int jumpOffset(int word) {
            return word >> 31 << 20 | word & 0xFF000 | (word >>> 20 & 1) << 11 | (word >>> 21 & 0x3FF) << 1;
        }

        private static int branchOffset(int word) {
            return word >> 31 << 12 | (word >>> 7 & 1) << 11 | (word >>> 25 & 63) << 5 | (word >>> 8 & 15) << 1;
        }

        private int jumpToRegister(Process p, int word, int next) {
            if (kindOf(word) != 0) {
                return fail(2, word);
            }
            return finish(p, word, next, first(p, word) + (word >> 20) & -2);
        }

        private int branch(Process p, int word, int next) {
            int a = first(p, word);
            int b = second(p, word);
            boolean taken;
            switch (kindOf(word)) {
                case 0:
                    taken = a == b;
                    break;
                case 1:
                    taken = a != b;
                    break;
                case 4:
                    taken = a < b;
                    break;
                case 5:
                    taken = a >= b;
                    break;
                case 6:
                    taken = below(a, b);
                    break;
                case 7:
                    taken = !below(a, b);
                    break;
                default:
                    return fail(2, word);
            }
            p.pc = taken ? p.pc + branchOffset(word) : next;
            return DONE;
        }

        private int load(Process p, int word, int next) {
            int kind = kindOf(word);
            if (kind == 3 || kind > 5) {
                return fail(2, word);
            }
            int address = first(p, word) + (word >> 20);
            if ((address & (1 << (kind & 3)) - 1) != 0) {
                return fail(4, address);
            }
            if (!p.ownsRam(address) && !p.ownsApp(address)) {
                return fail(5, address);
            }
            switch (kind) {
                case 0:
                    return finish(p, word, (byte) cells.getByte(address), next);
                case 1:
                    return finish(p, word, (short) cells.getHalf(address), next);
                case 2:
                    return finish(p, word, cells.getWord(address), next);
                case 4:
                    return finish(p, word, cells.getByte(address), next);
                default:
                    return finish(p, word, cells.getHalf(address), next);
            }
        }

        private int save(Process p, int word, int next) {
            int kind = kindOf(word);
            if (kind > 2) {
                return fail(2, word);
            }
            int address = first(p, word) + (word >> 25 << 5 | word >>> 7 & 31);
            if ((address & (1 << kind) - 1) != 0) {
                return fail(6, address);
            }
            if (!p.ownsRam(address)) {
                return fail(7, address);
            }
            int v = second(p, word);
            if (kind == 0) {
                cells.setByte(address, v);
            } else if (kind == 1) {
                cells.setHalf(address, v);
            } else {
                cells.setWord(address, v);
            }
            p.pc = next;
            return DONE;
        }

        private int operateImmediate(Process p, int word, int next) {
            int kind = kindOf(word);
            int high = word >>> 25;
            if (kind == 1 && high != 0 || kind == 5 && high != 0 && high != 32) {
                return fail(2, word);
            }
            boolean other = kind == 5 && high == 32;
            return finish(p, word, compute(kind, other, first(p, word), word >> 20), next);
        }

        private int operate(Process p, int word, int next) {
            int kind = kindOf(word);
            int high = word >>> 25;
            int a = first(p, word);
            int b = second(p, word);
            if (high == 1) {
                return finish(p, word, multiply(kind, a, b), next);
            }
            if (high != 0 && !(high == 32 && (kind == 0 || kind == 5))) {
                return fail(2, word);
            }
            return finish(p, word, compute(kind, high == 32, a, b), next);
        }

        private static int compute(int kind, boolean other, int a, int b) {
            switch (kind) {
                case 0:
                    return other ? a - b : a + b;
                case 1:
                    return a << (b & 31);
                case 2:
                    return a < b ? 1 : 0;
                case 3:
                    return below(a, b) ? 1 : 0;
                case 4:
                    return a ^ b;
                case 5:
                    return other ? a >> (b & 31) : a >>> (b & 31);
                case 6:
                    return a | b;
                default:
                    return a & b;
            }
        }

        private static int multiply(int kind, int a, int b) {
            long wideA = a & 0xFFFFFFFFL;
            long wideB = b & 0xFFFFFFFFL;
            switch (kind) {
                case 0:
                    return a * b;
                case 1:
                    return (int) ((long) a * b >> 32);
                case 2:
                    return (int) (a * wideB >> 32);
                case 3:
                    return (int) (wideA * wideB >>> 32);
                case 4:
                    return b == 0 ? -1 : a / b;
                case 5:
                    return b == 0 ? -1 : (int) (wideA / wideB);
                case 6:
                    return b == 0 ? a : a % b;
                default:
                    return b == 0 ? a : (int) (wideA % wideB);
            }
        }

        private int doAtomic(Process p, int word, int next) {
            int operation = word >>> 27;
            boolean known = operation < 4 || (operation & 3) == 0;
            if (kindOf(word) != 2 || !known || operation == 2 && (word >>> 20 & 31) != 0) {
                return fail(2, word);
            }
            int address = first(p, word);
            boolean loads = operation == 2;
            if ((address & 3) != 0) {
                return fail(loads ? 4 : 6, address);
            }
            if (!p.ownsRam(address) && !(loads && p.ownsApp(address))) {
                return fail(loads ? 5 : 7, address);
            }
            if (loads) {
                p.reserved = address;
                return finish(p, word, cells.getWord(address), next);
            }
            if (operation == 3) {
                return saveReserved(p, word, next);
            }
            int old = cells.getWord(address);
            cells.setWord(address, combine(operation, old, second(p, word)));
            return finish(p, word, old, next);
        }

        private int saveReserved(Process p, int word, int next) {
            int address = first(p, word);
            boolean kept = p.reserved == address;
            if (kept) {
                cells.setWord(address, second(p, word));
            }
            p.reserved = Process.NOT_RESERVED;
            return finish(p, word, kept ? 0 : 1, next);
        }

        private static int combine(int operation, int old, int v) {
            switch (operation) {
                case 0:
                    return old + v;
                case 4:
                    return old ^ v;
                case 8:
                    return old | v;
                case 12:
                    return old & v;
                case 16:
                    return Math.min(old, v);
                case 20:
                    return Math.max(old, v);
                case 24:
                    return below(old, v) ? old : v;
                case 28:
                    return below(old, v) ? v : old;
                default:
                    return v;
            }
        }

        private int fence(Process p, int word, int next) {
            if (kindOf(word) > 1) {
                return fail(2, word);
            }
            p.pc = next;
            return DONE;
        }

        private int callKernel(Process p, int word, int next) {
            if (word == 115) {
                p.pc = next;
                return CALLED;
            }
            return word == 1048691 ? fail(3, p.pc) : fail(2, word);
        }
    }

    /** Turns an instruction of 16 bits into the one of 32 bits that does the same; 0: there is none. */
    private static final class Compressed {
        static int expand(int h) {
            switch (h & 3) {
                case 0:
                    return expandFirst(h);
                case 1:
                    return expandSecond(h);
                default:
                    return expandThird(h);
            }
        }

        /** Bits of h from one on, set down in another place. */
        private static int bits(int h, int from, int width, int to) {
            return (h >>> from & (1 << width) - 1) << to;
        }

        private static int narrow(int h, int from) {
            return 8 + (h >>> from & 7);
        }

        private static int immediate(int op, int kind, int rd, int rs, int v) {
            return v << 20 | rs << 15 | kind << 12 | rd << 7 | op;
        }

        private static int registers(int kind, int high, int rd, int rs1, int rs2) {
            return high << 25 | rs2 << 20 | rs1 << 15 | kind << 12 | rd << 7 | 0x33;
        }

        private static int saveWord(int base, int from, int v) {
            return v >> 5 << 25 | from << 20 | base << 15 | 2 << 12 | (v & 31) << 7 | 0x23;
        }

        private static int expandFirst(int h) {
            int offset = bits(h, 10, 3, 3) | bits(h, 6, 1, 2) | bits(h, 5, 1, 6);
            switch (h >>> 13) {
                case 0:
                    int v = bits(h, 11, 2, 4) | bits(h, 7, 4, 6) | bits(h, 6, 1, 2) | bits(h, 5, 1, 3);
                    return v == 0 ? 0 : immediate(0x13, 0, narrow(h, 2), 2, v);
                case 2:
                    return immediate(0x03, 2, narrow(h, 2), narrow(h, 7), offset);
                case 6:
                    return saveWord(narrow(h, 7), narrow(h, 2), offset);
                default:
                    return 0;
            }
        }

        private static int expandSecond(int h) {
            int rd = h >>> 7 & 31;
            int v = h << 19 >> 31 << 5 | h >>> 2 & 31;
            switch (h >>> 13) {
                case 0:
                    return immediate(0x13, 0, rd, rd, v);
                case 1:
                    return jump(h, 1);
                case 2:
                    return immediate(0x13, 0, rd, 0, v);
                case 3:
                    return rd == 2 ? moveStack(h) : v == 0 ? 0 : v << 12 | rd << 7 | 0x37;
                case 4:
                    return calculate(h, v);
                case 5:
                    return jump(h, 0);
                case 6:
                    return branch(h, 0);
                default:
                    return branch(h, 1);
            }
        }

        private static int moveStack(int h) {
            int v = h << 19 >> 31 << 9 | bits(h, 6, 1, 4) | bits(h, 5, 1, 6) | bits(h, 3, 2, 7) | bits(h, 2, 1, 5);
            return v == 0 ? 0 : immediate(0x13, 0, 2, 2, v);
        }

        private static int jump(int h, int rd) {
            int v = h << 19 >> 31 << 11 | bits(h, 11, 1, 4) | bits(h, 9, 2, 8) | bits(h, 8, 1, 10)
                    | bits(h, 7, 1, 6) | bits(h, 6, 1, 7) | bits(h, 3, 3, 1) | bits(h, 2, 1, 5);
            return bits(v, 20, 1, 31) | bits(v, 1, 10, 21) | bits(v, 11, 1, 20) | v & 0xFF000 | rd << 7 | 0x6F;
        }

        private static int branch(int h, int kind) {
            int v = h << 19 >> 31 << 8 | bits(h, 10, 2, 3) | bits(h, 5, 2, 6) | bits(h, 3, 2, 1) | bits(h, 2, 1, 5);
            return bits(v, 12, 1, 31) | bits(v, 5, 6, 25) | narrow(h, 7) << 15 | kind << 12
                    | bits(v, 1, 4, 8) | bits(v, 11, 1, 7) | 0x63;
        }

        private static int calculate(int h, int v) {
            int rd = narrow(h, 7);
            int rs = narrow(h, 2);
            boolean wide = (h >>> 12 & 1) == 1;
            switch (h >>> 10 & 3) {
                case 0:
                    return wide ? 0 : immediate(0x13, 5, rd, rd, v);
                case 1:
                    return wide ? 0 : immediate(0x13, 5, rd, rd, v | 1024);
                case 2:
                    return immediate(0x13, 7, rd, rd, v);
                default:
                    break;
            }
            if (wide) {
                return 0;
            }
            switch (h >>> 5 & 3) {
                case 0:
                    return registers(0, 32, rd, rd, rs);
                case 1:
                    return registers(4, 0, rd, rd, rs);
                case 2:
                    return registers(6, 0, rd, rd, rs);
                default:
                    return registers(7, 0, rd, rd, rs);
            }
        }

        private static int expandThird(int h) {
            int rd = h >>> 7 & 31;
            int rs = h >>> 2 & 31;
            boolean high = (h >>> 12 & 1) == 1;
            switch (h >>> 13) {
                case 0:
                    return high ? 0 : immediate(0x13, 1, rd, rd, rs);
                case 2:
                    int offset = bits(h, 12, 1, 5) | bits(h, 4, 3, 2) | bits(h, 2, 2, 6);
                    return rd == 0 ? 0 : immediate(0x03, 2, rd, 2, offset);
                case 4:
                    if (rs != 0) {
                        return registers(0, 0, rd, high ? rd : 0, rs);
                    }
                    if (rd == 0) {
                        return high ? 1048691 : 0;
                    }
                    return immediate(0x67, 0, high ? 1 : 0, rd, 0);
                case 6:
                    return saveWord(2, rs, bits(h, 9, 4, 2) | bits(h, 7, 2, 6));
                default:
                    return 0;
            }
        }
    }

    /** What each driver does for a command, in a tick, and as the world moves (part 7). */
    private static final class Drivers {
        static final int KEPT_OUT = 4000;

        final Cells cells;
        final Journal journal;
        final Kernel kernel;
        final Store store;
        int lamps;
        int buttons;
        final int[] levels = new int[2];
        int drawn;
        final byte[] out = new byte[KEPT_OUT];
        int outKept;
        /** When each process asked for its write and its read: who asked first is served first. */
        final int[] writeAsked = new int[Kernel.MOST_PROCESSES];
        final int[] readAsked = new int[Kernel.MOST_PROCESSES];
        int asked;

        Drivers(Cells cells, Journal journal, Kernel kernel, Store store) {
            this.cells = cells;
            this.journal = journal;
            this.kernel = kernel;
            this.store = store;
        }

        void wake(int seed) {
            lamps = 0;
            drawn = seed;
            asked = 0;
        }

        /** A command that the kernel has found sound: the driver has it, and its grant is there. */
        void obey(Process p, int driver) {
            int command = p.registers[11];
            int v = p.registers[12];
            int w = p.registers[13];
            switch (driver) {
                case ALARM:
                    commandAlarm(p, command, v, w);
                    break;
                case CONSOLE:
                    commandConsole(p, command, v);
                    break;
                case LAMPS:
                    commandLamps(p, command, v);
                    break;
                case BUTTONS:
                    commandButtons(p, command, v);
                    break;
                case RANDOM:
                    drawBytes(p, v);
                    break;
                case STORE:
                    commandStore(p, command, v, w);
                    break;
                case SAMPLER:
                    commandSampler(p, command, v, w);
                    break;
                case POST:
                    commandPost(p, command, v, w);
                    break;
                default:
                    sumBytes(p, v);
                    break;
            }
        }

        int tellOut(int i) {
            return i < 0 || i >= outKept ? NONE : out[i] & 255;
        }

        void tick() {
            tickAlarm();
            if ((journal.time & 7) == 0) {
                writeNextByte();
            }
            tickSampler();
        }

        private void tickAlarm() {
            for (int i = 0; i < kernel.count; i++) {
                Process p = kernel.processes[i];
                if (p.grants[ALARM] != 0) {
                    ringIfDue(p, kernel.ownAt(p, ALARM));
                }
            }
        }

        private void ringIfDue(Process p, int own) {
            int reference = cells.getWord(own + 4);
            int length = cells.getWord(own + 8);
            if (cells.getWord(own) == 1 && !below(journal.time - reference, length)) {
                cells.setWord(own, 0);
                kernel.send(p, ALARM, 0, journal.time, reference + length, 0);
            }
        }

        private void commandAlarm(Process p, int command, int v, int w) {
            int own = kernel.ownAt(p, ALARM);
            switch (command) {
                case 1:
                    p.ok1(1000);
                    break;
                case 2:
                    p.ok1(journal.time);
                    break;
                case 3:
                    answerEnd(p, own);
                    break;
                case 5:
                    arm(p, own, journal.time, v);
                    break;
                default:
                    arm(p, own, v, w);
                    break;
            }
        }

        private void arm(Process p, int own, int reference, int length) {
            cells.setWord(own, 1);
            cells.setWord(own + 4, reference);
            cells.setWord(own + 8, length);
            p.ok1(reference + length);
        }

        /** What a word that is not 0 says is over: OK, or FAIL 3 when it was 0 already. */
        private void answerEnd(Process p, int at) {
            if (cells.getWord(at) == 0) {
                p.fail(ALREADY);
            } else {
                cells.setWord(at, 0);
                p.ok();
            }
        }

        private void commandConsole(Process p, int command, int v) {
            int own = kernel.ownAt(p, CONSOLE);
            switch (command) {
                case 1:
                    ask(p, own, atMost(v, cells.getWord(kernel.readBufferAt(p, CONSOLE, 1) + 4)), writeAsked);
                    break;
                case 2:
                    ask(p, own + 8, atMost(v, cells.getWord(kernel.writeBufferAt(p, CONSOLE, 1) + 4)), readAsked);
                    break;
                default:
                    if (cells.getWord(own + 8) == 0) {
                        p.fail(ALREADY);
                    } else {
                        endRead(p, own + 8, CANCEL);
                        p.ok();
                    }
                    break;
            }
        }

        private void ask(Process p, int at, int n, int[] order) {
            if (cells.getWord(at) != 0) {
                p.fail(BUSY);
            } else if (n == 0) {
                p.fail(SIZE);
            } else {
                cells.setWord(at, n);
                cells.setWord(at + 4, 0);
                order[p.number] = asked;
                asked++;
                p.ok();
            }
        }

        /** The process whose write (word 0) or read (word 2) under way was asked first, or null. */
        private Process firstAsked(int word, int[] order) {
            Process first = null;
            for (int i = 0; i < kernel.count; i++) {
                Process p = kernel.processes[i];
                boolean underWay = cells.getWord(kernel.ownAt(p, CONSOLE) + 4 * word) != 0;
                if (underWay && (first == null || order[i] < order[first.number])) {
                    first = p;
                }
            }
            return first;
        }

        private void writeNextByte() {
            Process p = firstAsked(0, writeAsked);
            if (p == null) {
                return;
            }
            int own = kernel.ownAt(p, CONSOLE);
            int buffer = kernel.readBufferAt(p, CONSOLE, 1);
            int written = cells.getWord(own + 4);
            boolean cutShort = written >= cells.getWord(buffer + 4);
            if (!cutShort) {
                putOut(cells.getByte(cells.getWord(buffer) + written));
                written++;
                cells.setWord(own + 4, written);
            }
            if (cutShort || written == cells.getWord(own)) {
                cells.setWord(own, 0);
                cells.setWord(own + 4, 0);
                kernel.send(p, CONSOLE, 1, written, 0, 0);
            }
        }

        private void putOut(int b) {
            journal.counts[Journal.BYTES_OUT]++;
            if (outKept < KEPT_OUT) {
                out[outKept] = (byte) b;
                outKept++;
            }
        }

        /** A byte is typed; false when it is lost. */
        boolean takeTyped(int b) {
            Process p = firstAsked(2, readAsked);
            if (p == null) {
                return false;
            }
            int at = kernel.ownAt(p, CONSOLE) + 8;
            int buffer = kernel.writeBufferAt(p, CONSOLE, 1);
            int came = cells.getWord(at + 4);
            boolean fits = came < cells.getWord(buffer + 4);
            if (fits) {
                cells.setByte(cells.getWord(buffer) + came, b);
                came++;
                cells.setWord(at + 4, came);
            }
            if (!fits || came == cells.getWord(at)) {
                endRead(p, at, 0);
            }
            return fits;
        }

        private void endRead(Process p, int at, int error) {
            int came = cells.getWord(at + 4);
            cells.setWord(at, 0);
            cells.setWord(at + 4, 0);
            kernel.send(p, CONSOLE, 2, error, came, 0);
        }

        private void commandLamps(Process p, int command, int v) {
            if (v < 0 || v > 3) {
                p.fail(INVALID);
                return;
            }
            int bit = 1 << v;
            if (command == 1) {
                lamps |= bit;
            } else if (command == 2) {
                lamps &= ~bit;
            } else {
                lamps ^= bit;
            }
            p.ok();
        }

        private void commandButtons(Process p, int command, int v) {
            if (v < 0 || v > 3) {
                p.fail(INVALID);
                return;
            }
            int own = kernel.ownAt(p, BUTTONS);
            int bit = 1 << v;
            if (command == 3) {
                p.ok1(buttons >>> v & 1);
            } else {
                int heard = cells.getWord(own);
                cells.setWord(own, command == 1 ? heard | bit : heard & ~bit);
                p.ok();
            }
        }

        /** False when the button was so already. */
        boolean moveButton(int button, boolean down) {
            int now = down ? 1 : 0;
            if ((buttons >>> button & 1) == now) {
                return false;
            }
            buttons ^= 1 << button;
            for (int i = 0; i < kernel.count; i++) {
                Process p = kernel.processes[i];
                if ((cells.getWord(kernel.ownAt(p, BUTTONS)) >>> button & 1) == 1) {
                    kernel.send(p, BUTTONS, 0, button, now, 0);
                }
            }
            return true;
        }

        private void drawBytes(Process p, int v) {
            int buffer = kernel.writeBufferAt(p, RANDOM, 0);
            int address = cells.getWord(buffer);
            int n = atMost(v, cells.getWord(buffer + 4));
            for (int i = 0; i < n; i++) {
                drawn = drawn * 1664525 + 1013904223;
                cells.setByte(address + i, drawn >>> 24);
            }
            p.ok();
            kernel.send(p, RANDOM, 0, 0, n, 0);
        }

        private void commandStore(Process p, int command, int v, int w) {
            int number = cells.getWord(p.app.storeAt);
            switch (command) {
                case 1:
                    fetchValue(p, number, v);
                    break;
                case 2:
                    keepValue(p, number, v, w);
                    break;
                default:
                    forgetValue(p, number, v);
                    break;
            }
        }

        private void fetchValue(Process p, int number, int key) {
            int record = store.find(number, key);
            int length = 0;
            if (record != 0) {
                length = cells.getWord(record + 8);
                int buffer = kernel.writeBufferAt(p, STORE, 0);
                cells.copy(record + 12, cells.getWord(buffer), atMost(length, cells.getWord(buffer + 4)));
            }
            p.ok();
            kernel.send(p, STORE, 0, record != 0 ? 0 : NO_SUPPORT, length, key);
        }

        private void keepValue(Process p, int number, int key, int length) {
            int buffer = kernel.readBufferAt(p, STORE, 0);
            if (below(32, length) || length > cells.getWord(buffer + 4)) {
                p.fail(SIZE);
                return;
            }
            boolean put = store.put(number, key, length, cells.getWord(buffer));
            answerPut(p, put ? 0 : NO_MEMORY, length, key);
        }

        private void forgetValue(Process p, int number, int key) {
            if (store.find(number, key) == 0) {
                answerPut(p, NO_SUPPORT, 0, key);
                return;
            }
            boolean put = store.put(number, key, Store.NO_VALUE, 0);
            answerPut(p, put ? 0 : NO_MEMORY, 0, key);
        }

        /** When power went, the board is off at once: nobody hears of it. */
        private void answerPut(Process p, int error, int length, int key) {
            if (!store.lost) {
                p.ok();
                kernel.send(p, STORE, 0, error, length, key);
            }
        }

        private void tickSampler() {
            for (int i = 0; i < kernel.count; i++) {
                Process p = kernel.processes[i];
                if (p.grants[SAMPLER] != 0) {
                    sampleIfDue(p, kernel.ownAt(p, SAMPLER));
                }
            }
        }

        private void sampleIfDue(Process p, int own) {
            int channel = cells.getWord(own) - 1;
            if (channel >= 0 && channel <= 1 && cells.getWord(own + 8) == journal.time) {
                cells.setWord(own + 8, journal.time + cells.getWord(own + 4));
                kernel.send(p, SAMPLER, 0, channel, levels[channel], 0);
            }
        }

        private void commandSampler(Process p, int command, int v, int w) {
            int own = kernel.ownAt(p, SAMPLER);
            if (command == 3) {
                answerEnd(p, own);
            } else if (v < 0 || v > 1 || command == 2 && (w < 1 || w > 100000)) {
                p.fail(INVALID);
            } else if (command == 1) {
                p.ok();
                kernel.send(p, SAMPLER, 0, v, levels[v], 1);
            } else if (cells.getWord(own) != 0) {
                p.fail(BUSY);
            } else {
                cells.setWord(own, 1 + v);
                cells.setWord(own + 4, w);
                cells.setWord(own + 8, journal.time + w);
                p.ok();
            }
        }

        private void commandPost(Process p, int command, int v, int w) {
            switch (command) {
                case 1:
                    sendPost(p, v, w);
                    break;
                case 2:
                    answerEnd(p, kernel.ownAt(p, POST));
                    break;
                default:
                    findByName(p, v);
                    break;
            }
        }

        private void sendPost(Process p, int v, int w) {
            Process to = kernel.find(v);
            if (to == null || to.isOver() || to.grants[POST] == 0
                    || cells.getWord(kernel.writeBufferAt(to, POST, 0) + 4) == 0) {
                p.fail(NO_DEVICE);
                return;
            }
            int box = kernel.ownAt(to, POST);
            if (to == p) {
                p.fail(INVALID);
            } else if (cells.getWord(box) != 0) {
                p.fail(BUSY);
            } else {
                int from = kernel.readBufferAt(p, POST, 0);
                int place = kernel.writeBufferAt(to, POST, 0);
                int n = atMost(atMost(w, cells.getWord(from + 4)), cells.getWord(place + 4));
                cells.copy(cells.getWord(from), cells.getWord(place), n);
                cells.setWord(box, 1);
                p.ok1(n);
                kernel.send(to, POST, 0, p.number, n, 0);
            }
        }

        private void findByName(Process p, int length) {
            int buffer = kernel.readBufferAt(p, POST, 0);
            if (length < 1 || length > 16 || length > cells.getWord(buffer + 4)) {
                p.fail(SIZE);
                return;
            }
            int address = cells.getWord(buffer);
            for (int i = 0; i < kernel.count; i++) {
                if (kernel.processes[i].app.hasName(address, length)) {
                    p.ok1(i);
                    return;
                }
            }
            p.fail(NO_DEVICE);
        }

        private void sumBytes(Process p, int v) {
            int buffer = kernel.readBufferAt(p, SUMS, 0);
            p.ok1(cells.crc(cells.getWord(buffer), atMost(v, cells.getWord(buffer + 4))));
        }
    }

    /** What a process may ask of the kernel (part 5). */
    private static final class SystemCalls {
        final Cells cells;
        final Journal journal;
        final Kernel kernel;

        SystemCalls(Cells cells, Journal journal, Kernel kernel) {
            this.cells = cells;
            this.journal = journal;
            this.kernel = kernel;
        }

        /** Answers the call, but tells the driver that is still to obey if it is a sound command. */
        int serve(Process p) {
            int call = p.registers[14];
            journal.note(p.number, Journal.CALL, call);
            p.reserved = Process.NOT_RESERVED;
            switch (call) {
                case 0:
                    yieldBy(p);
                    return NONE;
                case 1:
                    subscribe(p);
                    return NONE;
                case 2:
                    return checkCommand(p);
                case 3:
                    allow(p, true);
                    return NONE;
                case 4:
                    allow(p, false);
                    return NONE;
                case 5:
                    askMemory(p);
                    return NONE;
                case 6:
                    exit(p);
                    return NONE;
                default:
                    p.fail(NO_SUPPORT);
                    return NONE;
            }
        }

        private static boolean isDriver(int driver) {
            return driver >= 0 && driver < DRIVERS;
        }

        private void yieldBy(Process p) {
            switch (p.registers[10]) {
                case 0:
                    yieldAtOnce(p);
                    break;
                case 1:
                    if (p.queued > 0) {
                        kernel.runFirst(p);
                    } else {
                        p.state = WAITS;
                    }
                    break;
                case 2:
                    yieldFor(p, p.registers[11], p.registers[12]);
                    break;
                default:
                    p.fail(NO_SUPPORT);
                    break;
            }
        }

        private void yieldAtOnce(Process p) {
            boolean some = p.queued > 0;
            int flag = p.registers[11];
            if (p.ownsRam(flag)) {
                cells.setByte(flag, some ? 1 : 0);
            }
            if (some) {
                kernel.runFirst(p);
            }
        }

        private void yieldFor(Process p, int driver, int number) {
            int k = p.findUpcall(driver, number);
            if (k != NONE) {
                kernel.giveWaiting(p, k);
            } else {
                p.state = WAITS_FOR;
                p.awaitedDriver = driver;
                p.awaitedNumber = number;
            }
        }

        private void subscribe(Process p) {
            int driver = p.registers[10];
            int number = p.registers[11];
            int function = p.registers[12];
            boolean callable = function == 0 || (function & 1) == 0 && p.ownsApp(function);
            if (!isDriver(driver)) {
                p.failBack(NO_DEVICE);
            } else if (!below(number, SUBSCRIPTIONS[driver]) || !callable) {
                p.failBack(INVALID);
            } else if (!kernel.reachGrant(p, driver)) {
                p.failBack(NO_MEMORY);
            } else {
                p.removeUpcalls(driver, number);
                exchange(p, kernel.subscriptionAt(p, driver, number));
            }
        }

        private void allow(Process p, boolean writing) {
            int driver = p.registers[10];
            int buffer = p.registers[11];
            if (!isDriver(driver)) {
                p.failBack(NO_DEVICE);
                return;
            }
            int buffers = writing ? WRITE_BUFFERS[driver] : READ_BUFFERS[driver];
            if (!below(buffer, buffers) || !kernel.bufferFits(p, p.registers[12], p.registers[13], writing)) {
                p.failBack(INVALID);
            } else if (!kernel.reachGrant(p, driver)) {
                p.failBack(NO_MEMORY);
            } else if (writing) {
                exchange(p, kernel.writeBufferAt(p, driver, buffer));
            } else {
                exchange(p, kernel.readBufferAt(p, driver, buffer));
            }
        }

        /** a2 and a3 go into a pair of a grant's words; what was there is the answer. */
        private void exchange(Process p, int at) {
            int first = cells.getWord(at);
            int second = cells.getWord(at + 4);
            cells.setWord(at, p.registers[12]);
            cells.setWord(at + 4, p.registers[13]);
            p.ok2(first, second);
        }

        private int checkCommand(Process p) {
            int driver = p.registers[10];
            int command = p.registers[11];
            if (!isDriver(driver) || !p.app.permits(driver, command)) {
                p.fail(NO_DEVICE);
            } else if (command == 0) {
                answerZero(p, HOW_MANY[driver]);
            } else if (!hasCommand(p, driver, command)) {
                p.fail(NO_SUPPORT);
            } else if (!kernel.reachGrant(p, driver)) {
                p.fail(NO_MEMORY);
            } else {
                return driver;
            }
            return NONE;
        }

        private static void answerZero(Process p, int howMany) {
            if (howMany == 0) {
                p.ok();
            } else {
                p.ok1(howMany);
            }
        }

        private static boolean hasCommand(Process p, int driver, int command) {
            if (driver == STORE && p.app.storeAt == 0) {
                return false;
            }
            return command > 0 && command < 32 && (COMMANDS[driver] >>> command & 1) == 1;
        }

        private void askMemory(Process p) {
            int wanted = p.registers[11];
            switch (p.registers[10]) {
                case 0:
                    moveBreak(p, wanted & 0xFFFFFFFFL, false);
                    break;
                case 1:
                    moveBreak(p, (long) p.breakAt + wanted, true);
                    break;
                case 2:
                    p.ok1(p.app.address);
                    break;
                case 3:
                    p.ok1(p.app.address + p.app.total);
                    break;
                case 4:
                    p.ok1(p.base);
                    break;
                case 5:
                    p.ok1(p.breakAt);
                    break;
                case 6:
                    p.ok1(p.lowest);
                    break;
                default:
                    p.fail(NO_SUPPORT);
                    break;
            }
        }

        private void moveBreak(Process p, long wanted, boolean tellsBefore) {
            long edge = wanted + 3 & -4L;
            int before = p.breakAt;
            if (edge < kernel.buffersEnd(p)) {
                p.fail(INVALID);
            } else if (edge > p.lowest) {
                p.fail(NO_MEMORY);
            } else {
                p.breakAt = (int) edge;
                if (tellsBefore) {
                    p.ok1(before);
                } else {
                    p.ok();
                }
            }
        }

        private void exit(Process p) {
            switch (p.registers[10]) {
                case 0:
                    kernel.endWith(p, p.registers[11]);
                    break;
                case 1:
                    kernel.startAgain(p);
                    break;
                default:
                    p.fail(NO_SUPPORT);
                    break;
            }
        }
    }
}

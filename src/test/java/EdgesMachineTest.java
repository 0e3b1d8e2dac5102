/** Part 2: accesses at the edges of what is allowed, what is no instruction, HINTs, reservations, extreme numbers. */
public final class EdgesMachineTest {
    private static final int APP = 0x10000, CODE = 0x10020, RAM = 0x20000;
    private static final int MIN = 0x80000000, MAX = 0x7FFFFFFF;
    private static final int NO_FAULT = 0;

    public static void main(String[] args) {
        accessesAtTheBreak();
        accessesAtTheBeginning();
        accessesAtTheAppsEdges();
        accessesOfNothing();
        breakThatMoves();
        misalignedBeforeNotAllowed();
        addressesWrap();
        halvesAtTheAppsEnd();
        farJumps();
        eachBitOfImmediates();
        startAtOddPlaces();
        divisions();
        shifts();
        fences();
        systemWords();
        orderBits();
        noWords();
        noHalves();
        hintsDoNothing();
        reservationsEnd();
        reservationsStay();
        turnsEndReservations();
        faultsLeaveAll();
        Check.finish();
    }

    /** Runs the code, in a process with some RAM, until it spins or faults. */
    private static Rig ran(int ram, Code code) {
        Rig rig = Rig.running(App.of(ram, code.spin()).total(256));
        return rig.run(40);
    }

    private static void fault(String what, Rig rig, int number, int value) {
        int control = RAM + rig.board.process(0, 5) - 64;
        Check.due(what + ": state", rig.board.process(0, 0), number == NO_FAULT ? 1 : 5);
        Check.due(what + ": fault", rig.word(control + 24), number == NO_FAULT ? 0 : 1 + number);
        Check.due(what + ": value", rig.word(control + 28), value);
        Check.due(what + ": noted", rig.board.count(7), number == NO_FAULT ? 0 : 1);
    }

    private static Code loads(int address, int kind) {
        return new Code().li(5, address).word(Code.iType(3, kind, 6, 5, 0));
    }

    private static Code stores(int address, int kind) {
        return new Code().li(5, address).word(Code.sType(kind, 5, 6, 0));
    }

    private static Code atomics(int address, int operation) {
        return new Code().li(5, address).word(Code.rType(0x2F, 2, operation << 2, 6, 5, operation == 2 ? 0 : 7));
    }

    private static void access(String what, int ram, int address, int loadFault, int storeFault) {
        String at = what + " " + Integer.toHexString(address);
        for (int kind = 0; kind < 3; kind++) {
            if (address % (1 << kind) == 0) {
                fault(at + " load " + kind, ran(ram, loads(address, kind)), loadFault, loadFault == 0 ? 0 : address);
                fault(at + " store " + kind, ran(ram, stores(address, kind)), storeFault, storeFault == 0 ? 0 : address);
            }
        }
        fault(at + " load 4", ran(ram, loads(address, 4)), loadFault, loadFault == 0 ? 0 : address);
        if (address % 4 == 0) {
            fault(at + " lr", ran(ram, atomics(address, 2)), loadFault, loadFault == 0 ? 0 : address);
            fault(at + " sc", ran(ram, atomics(address, 3)), storeFault, storeFault == 0 ? 0 : address);
            fault(at + " amo", ran(ram, atomics(address, 0)), storeFault, storeFault == 0 ? 0 : address);
        }
    }

    /** Regions of size 4, 8, powers of 2, and others; RAM as told is rounded up. */
    private static void accessesAtTheBreak() {
        int[] sizes = {1, 4, 5, 8, 9, 12, 64, 100, 256, 512, 513, 1024};
        for (int ram : sizes) {
            int end = RAM + (ram + 3 & -4);
            access("the last word, ram " + ram, ram, end - 4, 0, 0);
            access("the last half, ram " + ram, ram, end - 2, 0, 0);
            access("the last byte, ram " + ram, ram, end - 1, 0, 0);
            access("at the break, ram " + ram, ram, end, 5, 7);
            access("behind it, ram " + ram, ram, end + 1, 5, 7);
        }
    }

    private static void accessesAtTheBeginning() {
        access("the first", 64, RAM, 0, 0);
        access("one before", 64, RAM - 1, 5, 7);
        access("a half before", 64, RAM - 2, 5, 7);
        access("a word before", 64, RAM - 4, 5, 7);
        access("control", 64, RAM + 1024 - 64, 5, 7);
        access("the block's end", 64, RAM + 1024, 5, 7);
    }

    private static void accessesAtTheAppsEdges() {
        access("the app's first", 64, APP, 0, 7);
        access("before it", 64, APP - 1, 5, 7);
        access("before it", 64, APP - 4, 5, 7);
        access("the app's last word", 64, APP + 252, 0, 7);
        access("the app's last byte", 64, APP + 255, 0, 7);
        access("behind it", 64, APP + 256, 5, 7);
        access("the store", 64, 0x1F000, 5, 7);
    }

    private static void accessesOfNothing() {
        access("no ram at all", 0, RAM, 5, 7);
        access("no ram at all", 0, RAM + 4, 5, 7);
        access("0", 64, 0, 5, 7);
        access("the greatest word", 64, -4, 5, 7);
        access("the greatest byte", 64, -1, 5, 7);
        access("with a sign", 64, MIN, 5, 7);
        access("with a sign, and else in ram", 64, MIN | RAM, 5, 7);
        access("with a sign, and else in the app", 64, MIN | APP, 5, 7);
        access("behind ram", 64, 0x30000, 5, 7);
    }

    private static void breakThatMoves() {
        Code up = new Code().call(5, 1, 4, 0, 0).li(5, RAM + 64).lw(6, 5, 0).lw(6, 5, 4);
        fault("4 more", ran(64, up), 5, RAM + 68);
        Code down = new Code().call(5, 1, -4, 0, 0).li(5, RAM + 56).lw(6, 5, 0).lw(6, 5, 4);
        fault("4 less", ran(64, down), 5, RAM + 60);
        Code none = new Code().call(5, 0, RAM, 0, 0).li(5, RAM).lw(6, 5, 0);
        fault("none left", ran(64, none), 5, RAM);
        Code all = new Code().call(5, 0, RAM + 960, 0, 0).li(5, RAM + 956).lw(6, 5, 0).lw(6, 5, 4);
        fault("up to control", ran(64, all), 5, RAM + 960);
    }

    /** 4 and 6 before 5 and 7. */
    private static void misalignedBeforeNotAllowed() {
        int[] places = {RAM + 64, APP + 256, 0, -4, MIN};
        for (int place : places) {
            for (int off = 1; off < 4; off++) {
                int at = place + off;
                fault("lw", ran(64, loads(at, 2)), 4, at);
                fault("sw", ran(64, stores(at, 2)), 6, at);
                fault("lr", ran(64, atomics(at, 2)), 4, at);
                fault("sc", ran(64, atomics(at, 3)), 6, at);
                fault("amo", ran(64, atomics(at, 28)), 6, at);
                boolean odd = off % 2 == 1;
                fault("lh", ran(64, loads(at, 1)), odd ? 4 : 5, at);
                fault("lhu", ran(64, loads(at, 5)), odd ? 4 : 5, at);
                fault("sh", ran(64, stores(at, 1)), odd ? 6 : 7, at);
                fault("lb", ran(64, loads(at, 0)), 5, at);
                fault("sb", ran(64, stores(at, 0)), 7, at);
            }
        }
        fault("lw over the break", ran(64, loads(RAM + 62, 2)), 4, RAM + 62);
        fault("sh over the break", ran(64, stores(RAM + 63, 1)), 6, RAM + 63);
    }

    private static void addressesWrap() {
        fault("below 0", ran(64, new Code().li(5, 4).lw(6, 5, -8)), 5, -4);
        fault("above the greatest", ran(64, new Code().li(5, -4).lw(6, 5, 4)), 5, 0);
        Code back = new Code().li(5, RAM + 2048).lw(6, 5, -2048).li(5, RAM - 2047).word(Code.iType(3, 0, 6, 5, 2047));
        fault("the greatest offsets", ran(64, back), NO_FAULT, 0);
        Code store = new Code().li(5, RAM + 2048).sw(5, 5, -2048).li(5, RAM - 2047).sb(5, 5, 2047);
        fault("the greatest offsets of stores", ran(64, store), NO_FAULT, 0);
    }

    /** An instruction's access is that of its first half, then, if the lowest two bits of that are 3, of its second. */
    private static void halvesAtTheAppsEnd() {
        Rig rig = Rig.running(64, new Code().nop().half(1).half(1)).run(3);
        rig.state("a half at the very end is done", 0, 1);
        Check.due("the pc is at the end", rig.board.process(0, 1), CODE + 8);
        rig.run(1);
        fault("then nothing is there", rig, 1, CODE + 8);
        rig = Rig.running(64, new Code().nop().half(1).half(0x13)).run(3);
        fault("a word's second half", rig, 1, CODE + 8);
        Check.due("the pc is that of the first", rig.board.process(0, 1), CODE + 6);
        rig = Rig.running(64, new Code().nop().half(1).half(0)).run(3);
        fault("no instruction in the last half", rig, 2, 0);
        rig = Rig.running(new App().main(-32, 64).code(new Code().spin())).run(1);
        rig.state("the app's first half may be executed", 0, 1);
        rig = Rig.running(new App().main(-34, 64).code(new Code().spin())).run(1);
        fault("before the app", rig, 1, APP - 2);
        Rig both = Rig.with(App.of(64, new Code().nop()), App.of(64, new Code().spin()));
        both.board.boot(0, 10, 0, false, 0);
        both.run(2);
        fault("another's app behind it", both, 1, CODE + 4);
    }

    private static void goes(String what, Code code, int address) {
        Rig rig = Rig.running(64, code);
        rig.run(1);
        Check.due(what, rig.board.process(0, 1), address);
        if (address < APP || address >= CODE + 4) {
            rig.run(1);
            fault(what, rig, 1, address);
        }
    }

    private static void farJumps() {
        goes("jal furthest", new Code().word(Code.jType(0, 0xFFFFE)), CODE + 0xFFFFE);
        goes("jal furthest back", new Code().word(Code.jType(0, -0x100000)), CODE - 0x100000);
        goes("jal to itself", new Code().word(Code.jType(0, 0)), CODE);
        goes("branch furthest", new Code().word(Code.bType(0, 0, 0, 4094)), CODE + 4094);
        goes("branch furthest back", new Code().word(Code.bType(0, 0, 0, -4096)), CODE - 4096);
        goes("jalr of 0", new Code().word(Code.iType(0x67, 0, 0, 0, 0)), 0);
        goes("jalr below 0", new Code().word(Code.iType(0x67, 0, 0, 0, -1)), -2);
        goes("jalr to the least offset", new Code().word(Code.iType(0x67, 0, 0, 0, -2048)), -2048);
        goes("jalr to the greatest", new Code().word(Code.iType(0x67, 0, 0, 0, 2047)), 2046);
    }

    /** One bit of an offset or a number at a time, and all but it. */
    private static void eachBitOfImmediates() {
        for (int bit = 1; bit < 21; bit++) {
            int v = bit == 20 ? -0x100000 : 1 << bit;
            goes("jal by bit " + bit, new Code().word(Code.jType(0, v)), CODE + v);
            goes("jal by all but bit " + bit, new Code().word(Code.jType(0, ~1 ^ v)), CODE + (bit == 20 ? 0xFFFFE : ~1 ^ v));
        }
        for (int bit = 1; bit < 13; bit++) {
            int v = bit == 12 ? -4096 : 1 << bit;
            goes("branch by bit " + bit, new Code().word(Code.bType(0, 0, 0, v)), CODE + v);
            goes("branch by all but bit " + bit, new Code().word(Code.bType(0, 0, 0, ~1 ^ v)),
                    CODE + (bit == 12 ? 4094 : ~1 ^ v));
        }
        for (int bit = 0; bit < 12; bit++) {
            int v = bit == 11 ? -2048 : 1 << bit;
            Check.due("addi " + v, result(Code.iType(0x13, 0, 12, 10, v), 5, 0), 5 + v);
            Rig rig = ran(4096, new Code().li(5, RAM + 2048 - v).li(6, 77).sb(5, 6, v));
            Check.due("sb " + v, rig.board.memory(RAM + 2048), 77);
            rig = ran(4096, new Code().li(5, RAM + 2048).li(6, 77).sb(5, 6, 0).li(5, RAM + 2048 - v)
                    .word(Code.iType(3, 0, 20, 5, v)));
            Check.due("lb " + v, rig.board.register(0, 20), 77);
        }
        for (int bit = 12; bit < 32; bit++) {
            Check.due("lui " + bit, result(1 << bit | 12 << 7 | 0x37, 0, 0), 1 << bit);
            Check.due("auipc " + bit, result(1 << bit | 12 << 7 | 0x17, 0, 0), CODE + 8 + (1 << bit));
        }
    }

    private static void startAtOddPlaces() {
        int[] starts = {1, 3, -1, MIN, MAX};
        for (int start : starts) {
            Rig rig = Rig.running(new App().main(start, 64).code(new Code().nop().nop()));
            Check.due("start " + start, rig.board.process(0, 1), CODE + start & -2);
        }
    }

    private static int result(int word, int a, int b) {
        Rig rig = Rig.running(64, new Code().li(10, a).li(11, b).word(word).spin()).run(8);
        return rig.board.register(0, 12);
    }

    private static void op(String what, int kind, int high, int a, int b, int want) {
        Check.due(what + " " + a + " " + b, result(Code.rType(0x33, kind, high, 12, 10, 11), a, b), want);
    }

    private static void divisions() {
        int[] some = {0, 1, -1, MAX, MIN, 7};
        for (int a : some) {
            op("div by 0", 4, 1, a, 0, -1);
            op("divu by 0", 5, 1, a, 0, -1);
            op("rem by 0", 6, 1, a, 0, a);
            op("remu by 0", 7, 1, a, 0, a);
            for (int b : some) {
                op("mulh", 1, 1, a, b, (int) ((long) a * b >> 32));
                op("mulhsu", 2, 1, a, b, (int) ((long) a * (b & 0xFFFFFFFFL) >> 32));
                op("mulhu", 3, 1, a, b, (int) ((a & 0xFFFFFFFFL) * (b & 0xFFFFFFFFL) >>> 32));
                if (b != 0) {
                    op("div", 4, 1, a, b, (int) ((long) a / b));
                    op("divu", 5, 1, a, b, Integer.divideUnsigned(a, b));
                    op("rem", 6, 1, a, b, (int) ((long) a % b));
                    op("remu", 7, 1, a, b, Integer.remainderUnsigned(a, b));
                }
            }
        }
    }

    private static void shifts() {
        int[] by = {0, 1, 31, 32, 33, 63, -1, MIN};
        for (int b : by) {
            int n = b & 31;
            op("sll", 1, 0, 0x80000003, b, 0x80000003 << n);
            op("srl", 5, 0, 0x80000003, b, 0x80000003 >>> n);
            op("sra", 5, 32, 0x80000003, b, 0x80000003 >> n);
        }
    }

    /** FENCE and FENCE.I (op 15, f 0 or 1) do nothing, whatever their other bits are. */
    private static void fences() {
        for (int bit = 7; bit < 32; bit++) {
            if (bit < 13 || bit > 14) {
                Rig rig = Rig.running(64, new Code().word(0x0F | 1 << bit).spin()).run(1);
                Check.due("fence with bit " + bit, rig.board.process(0, 1), CODE + 4);
                Check.due("no register is written", rig.board.register(0, 1), 0);
            }
        }
        for (int f = 2; f < 8; f++) {
            none(0x0F | f << 12);
        }
    }

    /** Of op 115 there are only the words 115 and 1048691. */
    private static void systemWords() {
        for (int bit = 7; bit < 32; bit++) {
            if (bit != 20) {
                none(115 | 1 << bit);
            }
            none(1048691 ^ (bit == 20 ? 1 << 21 : 1 << bit));
        }
        Rig rig = Rig.running(64, new Code().word(1048691)).run(1);
        fault("1048691", rig, 3, CODE);
        rig = Rig.running(64, new Code().li(14, 99).word(115)).run(2);
        Check.due("115", rig.board.count(5), 1);
    }

    /** Bits aq and rl count for nothing. */
    private static void orderBits() {
        for (int bits = 0; bits < 4; bits++) {
            Code c = new Code().li(6, 5).word(Code.rType(0x2F, 2, 2 << 2 | bits, 20, 11, 0))
                    .word(Code.rType(0x2F, 2, 3 << 2 | bits, 21, 11, 6)).word(Code.rType(0x2F, 2, bits, 22, 11, 6));
            Rig rig = ran(64, c);
            Check.due("sc", rig.board.register(0, 21), 0);
            Check.due("amoadd answers", rig.board.register(0, 22), 5);
            Check.due("amoadd leaves", rig.word(RAM), 10);
        }
    }

    private static void none(int word) {
        Rig rig = Rig.running(64, new Code().word(word).spin()).run(2);
        String what = "word " + Integer.toHexString(word);
        fault(what, rig, 2, word);
        Check.due(what + ": the pc stays", rig.board.process(0, 1), CODE);
    }

    private static void noWords() {
        for (int op = 3; op < 128; op += 4) {
            if (",3,15,19,23,35,47,51,55,99,103,111,115,".indexOf("," + op + ",") < 0) {
                none(op);
                none(op | 0xFFFFFF80);
            }
        }
        for (int high = 0; high < 128; high++) {
            if (high != 0) {
                none(Code.rType(0x13, 1, high, 5, 5, 1));
            }
            if (high != 0 && high != 32) {
                none(Code.rType(0x13, 5, high, 5, 5, 1));
            }
            if (high > 1 && high != 32) {
                none(Code.rType(0x33, 0, high, 5, 5, 5));
                none(Code.rType(0x33, 5, high, 5, 5, 5));
            }
        }
        for (int kind = 1; kind < 8; kind++) {
            none(Code.iType(0x67, kind, 0, 5, 0));
            if (kind != 5) {
                none(Code.rType(0x33, kind, 32, 5, 5, 5));
            }
        }
        for (int operation = 0; operation < 32; operation++) {
            if (operation > 3 && operation % 4 != 0) {
                none(Code.rType(0x2F, 2, operation << 2, 5, 11, 5));
            }
        }
        for (int kind = 0; kind < 8; kind++) {
            if (kind != 2) {
                none(Code.rType(0x2F, kind, 0, 5, 11, 5));
            }
            if (kind > 2) {
                none(Code.sType(kind, 11, 5, 0));
            }
        }
        int[] others = {Code.iType(3, 3, 5, 11, 0), Code.iType(3, 6, 5, 11, 0), Code.iType(3, 7, 5, 11, 0),
            Code.bType(2, 0, 0, 8), Code.bType(3, 0, 0, 8)};
        for (int word : others) {
            none(word);
        }
        for (int r = 1; r < 32; r++) {
            none(Code.rType(0x2F, 2, 2 << 2, 5, 11, r));
        }
    }

    /** The manual's words on each half that is none: by quadrant and its highest three bits. */
    private static boolean isNone(int h) {
        int rd = h >> 7 & 31;
        int rs = h >> 2 & 31;
        boolean bit12 = (h >> 12 & 1) == 1;
        switch ((h & 3) * 8 + (h >> 13)) {
            case 0:
                return (h >> 5 & 255) == 0;
            case 1: case 3: case 4: case 5: case 7: case 17: case 19: case 21: case 23:
                return true;
            case 11:
                return !bit12 && rs == 0;
            case 12:
                int kind = h >> 10 & 3;
                return bit12 && kind != 2;
            case 16:
                return bit12;
            case 18:
                return rd == 0;
            case 20:
                return !bit12 && rd == 0 && rs == 0;
            default:
                return false;
        }
    }

    /**
     * All 16384 halves of a quadrant lie behind one another in an app. It samples a channel and jumps to the place that
     * the level tells, so that one process can be sent to each of them.
     */
    private static Rig quadrant(int q) {
        Code c = new Code().command(6, 2, 0, 1).yieldFor(6, 0).la(5, "halves").add(5, 5, Code.A1).jr(5).label("halves");
        for (int h = q; h < 0x10000; h += 4) {
            c.half(h);
        }
        Rig rig = Rig.with(App.of(64, c));
        rig.board.boot(0, 1000, 0, false, 0);
        return rig;
    }

    /** The process stands at the half, which is done in the next tick. */
    private static void standAt(Rig rig, int h) {
        rig.board.restart(0);
        rig.board.level(0, h >> 2 << 1);
        rig.board.run(16);
    }

    private static void noHalves() {
        int control = RAM + 1024 - 64;
        for (int q = 0; q < 3; q++) {
            Rig rig = quadrant(q);
            int wrong = 0;
            for (int h = q; h < 0x10000; h += 4) {
                standAt(rig, h);
                int faults = rig.board.count(7);
                rig.board.run(1);
                boolean none = rig.board.count(7) > faults && rig.board.event(0, 3) == 2;
                boolean so = none == isNone(h) && (!none || rig.word(control + 28) == h);
                if (!so) {
                    wrong++;
                    System.out.println("half " + Integer.toHexString(h) + " is none: " + none);
                }
            }
            Check.due("halves of quadrant " + q + " that are not as in the manual", wrong, 0);
        }
    }

    private static boolean isHint(int h) {
        int rd = h >> 7 & 31;
        int rs = h >> 2 & 31;
        boolean bit12 = (h >> 12 & 1) == 1;
        boolean zero = rs == 0 && !bit12;
        switch ((h & 3) * 8 + (h >> 13)) {
            case 8:
                return rd == 0 || zero;
            case 10:
                return rd == 0;
            case 11:
                return rd == 0 && !zero;
            case 12:
                return zero && (h >> 10 & 3) < 2;
            case 16:
                return !bit12 && (rd == 0 || rs == 0);
            case 20:
                return rd == 0 && rs != 0;
            default:
                return false;
        }
    }

    /** HINTs do nothing: every register stays, the pc is behind. */
    private static void hintsDoNothing() {
        int hints = 0;
        for (int q = 1; q < 3; q++) {
            Rig rig = quadrant(q);
            for (int h = q; h < 0x10000; h += 4) {
                if (isHint(h)) {
                    hints++;
                    standAt(rig, h);
                    int[] before = registers(rig);
                    rig.board.run(1);
                    before[32] += 2;
                    int wrong = java.util.Arrays.equals(before, registers(rig)) ? 0 : 1;
                    Check.due("hint " + Integer.toHexString(h), wrong, 0);
                }
            }
        }
        Check.due("hints", hints, 64 + 31 + 64 + 63 + 16 + 32 + 31 + 62);
    }

    private static int[] registers(Rig rig) {
        int[] all = new int[33];
        for (int i = 0; i < 32; i++) {
            all[i] = rig.board.register(0, i);
        }
        all[32] = rig.board.process(0, 1);
        return all;
    }

    private static int lr(int rd, int rs) {
        return Code.rType(0x2F, 2, 2 << 2, rd, rs, 0);
    }

    private static int sc(int rd, int rs, int from) {
        return Code.rType(0x2F, 2, 3 << 2, rd, rs, from);
    }

    /** x8 is the block's beginning; the code between LR and SC of that word leaves 0 (it was stored) or 1 in x20. */
    private static void between(String what, Code more, int want) {
        Code c = new Code().mv(8, 11).li(6, 77).li(20, 5).word(lr(21, 8));
        byte[] bytes = more.done();
        for (int i = 0; i < bytes.length; i += 4) {
            c.word(Code.get(bytes, i));
        }
        Rig rig = ran(64, c.word(sc(20, 8, 6)));
        Check.due(what, rig.board.register(0, 20), want);
        Check.due(what + ": stored", rig.word(RAM) == 77 ? 1 : 0, 1 - want);
    }

    private static void reservationsEnd() {
        between("an sc of the same word", new Code().word(sc(22, 8, 0)), 1);
        between("an sc of another word", new Code().addi(9, 8, 4).word(sc(22, 9, 0)), 1);
        between("a system call that is none", new Code().li(14, 99).ecall(), 1);
        between("a system call that fails", new Code().call(2, 9, 0, 0, 0), 1);
        between("yield without an upcall", new Code().call(0, 0, 0, 0, 0), 1);
        between("an lr of another word", new Code().addi(9, 8, 4).word(lr(22, 9)), 1);
        Rig rig = ran(64, new Code().li(6, 77).word(sc(20, 11, 6)));
        Check.due("without any", rig.board.register(0, 20), 1);
        Check.due("nothing stored", rig.word(RAM), 0);
        Code zero = new Code().mv(8, 11).word(lr(0, 8)).li(8, 0).word(sc(20, 8, 0));
        fault("sc of 0", ran(64, zero), 7, 0);
    }

    private static void reservationsStay() {
        between("nothing", new Code(), 0);
        between("instructions", new Code().nop().nop().lw(22, 8, 0), 0);
        between("a store to the word", new Code().sw(8, 0, 0), 0);
        between("a store of the same value elsewhere", new Code().sw(8, 0, 4), 0);
        between("an amo of the word", new Code().word(Code.rType(0x2F, 2, 0, 22, 8, 6)), 0);
        between("an lr of it again", new Code().word(lr(22, 8)), 0);
        between("an lr of another, then of it", new Code().addi(9, 8, 4).word(lr(22, 9)).word(lr(22, 8)), 0);
        Rig rig = Rig.running(64, new Code().mv(8, 11).word(lr(5, 8)).nop().nop().word(sc(20, 8, 8)).spin()).run(3);
        rig.board.hold(0, true);
        rig.run(20);
        rig.board.hold(0, false);
        rig.board.press(0, true);
        rig.board.type(1);
        rig.run(2);
        Check.due("held within its turn, and the world moves", rig.word(RAM), RAM);
    }

    private static void turnsEndReservations() {
        Code c = new Code().mv(8, 11).word(lr(5, 8)).word(sc(20, 8, 8)).word(lr(5, 8)).word(sc(21, 8, 8)).spin();
        int[] failed = {1, 0, 0};
        for (int scheduler = 0; scheduler < 3; scheduler++) {
            Rig rig = Rig.with(App.of(64, c));
            rig.board.boot(scheduler, 1, 0, false, 0);
            rig.run(3);
            Check.due("slice 1, scheduler " + scheduler, rig.board.register(0, 20), failed[scheduler]);
            Check.due("stored", rig.word(RAM) != 0 ? 1 : 0, 1 - failed[scheduler]);
        }
        Rig rig = Rig.with(App.of(64, c));
        rig.board.boot(0, 2, 0, false, 0);
        rig.run(5);
        Check.due("slice 2: a turn between", rig.board.register(0, 20), 1);
        Check.due("slice 2: and another one", rig.board.register(0, 21), 1);
        rig = Rig.with(App.of(64, c));
        rig.board.boot(0, 3, 0, false, 0);
        rig.run(5);
        Check.due("slice 3: within a turn", rig.word(RAM), RAM);
        Check.due("slice 3: the second is of one turn, too", rig.board.register(0, 21), 0);
    }

    /** With a fault the instruction does nothing else, the PC stays. */
    private static void faultsLeaveAll() {
        int[] words = {Code.iType(3, 2, 5, 0, 0), Code.iType(3, 1, 5, 11, 1), Code.sType(2, 0, 11, 0),
            Code.rType(0x2F, 2, 0, 5, 10, 11), lr(5, 0), sc(5, 10, 11), 0x200073, 1048691, 0, -1,
            Code.iType(0x67, 1, 1, 10, 0)};
        for (int word : words) {
            Rig rig = Rig.running(64, new Code().word(word).spin());
            int[] before = registers(rig);
            rig.run(1);
            rig.state("word " + Integer.toHexString(word), 0, 5);
            Check.holds("registers and pc stay: " + Integer.toHexString(word),
                    java.util.Arrays.equals(before, registers(rig)));
            Check.due("ram stays", rig.word(RAM), 0);
            Check.due("it counts as an instruction", rig.board.count(10), 1);
        }
    }
}

/** Part 2: instructions of 16 bits. */
public final class CompressedTest {
    private static final int CODE = 0x10020;
    private static final int RAM = 0x20000;
    private static final int BREAK = RAM + 2048;

    public static void main(String[] args) {
        registers();
        memory();
        jumps();
        hints();
        noInstructions();
        faults();
        mixedLengths();
        eachBitOfImmediates();
        Check.finish();
    }

    /** Runs one half with x(r) set, and tells the board as it is then. */
    private static Rig after(int half, int... set) {
        Code c = new Code();
        for (int i = 0; i < set.length; i += 2) {
            c.li(set[i], set[i + 1]);
        }
        int before = c.here() / 4;
        c.half(half).half(1).spin();
        Rig rig = Rig.running(2048, c).run(before + 1);
        rig.state(Integer.toHexString(half), 0, 1);
        Check.due(Integer.toHexString(half) + " pc", rig.board.process(0, 1), CODE + 4 * before + 2);
        return rig;
    }

    private static void leaves(String what, int half, int r, int want, int... set) {
        Check.due(what, after(half, set).board.register(0, r), want);
    }

    private static void registers() {
        leaves("addi4spn 1020", 0x1FE0, 8, BREAK + 1020);
        leaves("addi4spn 4", 0x005C, 15, BREAK + 4);
        leaves("addi -32", 0x1281, 5, -27, 5, 5);
        leaves("addi 31", 0x0FFD, 31, 36, 31, 5);
        leaves("li -32", 0x5381, 7, -32, 7, 9, 1, 5);
        leaves("li 31", 0x43FD, 7, 31);
        leaves("addi16sp -512", 0x7101, 2, BREAK - 512);
        leaves("addi16sp 496", 0x617D, 2, BREAK + 496);
        leaves("lui low", 0x7301, 6, 0xFFFE0000);
        leaves("lui high", 0x637D, 6, 0x1F000);
        leaves("srli", 0x807D, 8, 1, 8, -1);
        leaves("srai", 0x87FD, 15, -1, 15, 0x80000000);
        leaves("andi -32", 0x9881, 9, -32, 9, -1);
        leaves("andi 31", 0x88FD, 9, 31, 9, -1);
        leaves("sub", 0x8C05, 8, -4, 8, 3, 9, 7);
        leaves("xor", 0x8C25, 8, 6, 8, 12, 9, 10);
        leaves("or", 0x8C45, 8, 14, 8, 12, 9, 10);
        leaves("and", 0x8C65, 8, 8, 8, 12, 9, 10);
        leaves("slli", 0x02FE, 5, 0x80000000, 5, 3);
        leaves("mv", 0x82FE, 5, 44, 5, 1, 31, 44, 1, 7);
        leaves("add", 0x92FE, 5, 45, 5, 1, 31, 44);
    }

    private static void memory() {
        Rig rig = after(0xDC64, 8, RAM + 8, 9, 0x1234567);
        Check.due("sw", rig.word(RAM + 8 + 124), 0x1234567);
        rig = after(0xC15C, 10, RAM + 16, 15, 77);
        Check.due("sw low", rig.word(RAM + 20), 77);
        rig = after(0xDF96, 2, RAM + 4, 5, 99);
        Check.due("swsp", rig.word(RAM + 256), 99);
        rig = after(0xC202, 2, RAM);
        Check.due("swsp of x0", rig.word(RAM + 4), 0);
        leaves("lw of the app", 0x5C64, 9, 2 | 32 << 16, 8, 0x10000 - 124);
        leaves("lw", 0x413C, 15, 0, 10, RAM);
        leaves("lwsp", 0x52FE, 5, 2 | 32 << 16, 2, 0x10000 - 252);
        leaves("lwsp low", 0x4F92, 31, 2 | 32 << 16, 2, 0x10000 - 4);
    }

    /** An app of 5000 bytes with a half at 2500 from its code's beginning on, where it starts. */
    private static Rig jump(int half, int... set) {
        Code c = new Code();
        for (int i = 0; i < 2500 - 4 * set.length; i += 2) {
            c.half(1);
        }
        for (int i = 0; i < set.length; i += 2) {
            c.lui(set[i], set[i + 1]).addi(set[i], set[i], set[i + 1] & 2047);
        }
        c.half(half);
        for (int i = 0; i < 2500; i += 2) {
            c.half(1);
        }
        App app = new App().main(2500 - 4 * set.length, 64).code(c);
        return Rig.running(app).run(set.length + 1);
    }

    private static void goes(String what, int half, int offset, int link, int... set) {
        Rig rig = jump(half, set);
        Check.due(what + " goes", rig.board.process(0, 1), CODE + 2500 + offset);
        Check.due(what + " links", rig.board.register(0, 1), link);
    }

    private static void jumps() {
        int behind = CODE + 2502;
        goes("jal back", 0x3001, -2048, behind);
        goes("jal", 0x2FFD, 2046, behind);
        goes("j back", 0xB001, -2048, 0);
        goes("j", 0xAFFD, 2046, 0);
        goes("beqz", 0xD001, -256, 0);
        goes("beqz not", 0xD001, 2, 0, 8, 1);
        goes("bnez", 0xEFFD, 254, 0, 15, 1);
        goes("bnez not", 0xEFFD, 2, 0);
        goes("jr", 0x8282, 100 - 2500, 0, 5, CODE + 100);
        goes("jalr", 0x9282, 100 - 2500, behind, 5, CODE + 101);
        goes("jalr of ra", 0x9082, 100 - 2500, behind, 1, CODE + 100);
    }

    private static void hints() {
        int[] hints = {
            0x0001, 0x0005, 0x107D, // NOP with numbers
            0x0281, // ADDI of 0
            0x4001, 0x5005, // LI to x0
            0x6005, 0x7001, // LUI to x0
            0x0002, 0x0006, 0x0282, // SLLI to x0, by 0
            0x8001, 0x8401, // SRLI, SRAI by 0
            0x8016, 0x9016, // MV, ADD to x0
        };
        for (int half : hints) {
            Rig rig = after(half, 5, 55, 8, 88);
            Check.due("hint x0", rig.board.register(0, 0), 0);
            Check.due("hint x5", rig.board.register(0, 5), 55);
            Check.due("hint x8", rig.board.register(0, 8), 88);
        }
    }

    private static void fault(int half, int number, int value) {
        Rig rig = Rig.running(64, new Code().half(half).half(1)).run(1);
        String what = "half " + Integer.toHexString(half);
        rig.state(what, 0, 5);
        Check.due(what + " fault", rig.word(RAM + 1024 - 40), 1 + number);
        Check.due(what + " value", rig.word(RAM + 1024 - 36), value);
        Check.due(what + " pc", rig.board.process(0, 1), CODE);
    }

    private static void noInstructions() {
        int[] halves = {
            0x0000, 0x0004, 0x001C, // ADDI4SPN with 0
            0x2000, 0x6000, 0x8000, 0xA000, 0xE000, 0x9C7C, // loads and stores of F and D, reserved
            0x6101, // ADDI16SP with 0
            0x6001, 0x6281, // LUI with 0
            0x9001, 0x907D, 0x9401, // shifts by 32 and more
            0x9C01, 0x9C21, 0x9C41, 0x9C61, // SUBW, ADDW, reserved
            0x1002, 0x1282, 0x12FE, // SLLI by 32 and more
            0x2002, 0x6002, 0xA002, 0xE002, // F and D by the stack
            0x4002, 0x4012, 0x507E, // LWSP to x0
            0x8002, // JR of x0
        };
        for (int half : halves) {
            fault(half, 2, half);
        }
    }

    private static void faults() {
        fault(0x9002, 3, CODE);
        Rig rig = Rig.running(64, new Code().addi(8, 11, 2).half(0x5C64).half(1)).run(2);
        Check.due("C.LW not aligned", rig.word(RAM + 1024 - 40), 5);
        Check.due("its address", rig.word(RAM + 1024 - 36), RAM + 2 + 124);
        rig = Rig.running(64, new Code().half(0xDF96).half(1)).run(1);
        Check.due("C.SWSP beyond the break", rig.word(RAM + 1024 - 40), 8);
        Check.due("its address", rig.word(RAM + 1024 - 36), RAM + 64 + 252);
    }

    private static void mixedLengths() {
        Code c = new Code().half(0x4285).addi(5, 5, 2).half(0x0291).jal(1, "on").half(0x4281).label("on")
                .addi(5, 5, 8).spin();
        Rig rig = Rig.running(64, c).run(6);
        Check.due("halves and words", rig.board.register(0, 5), 15);
        Check.due("link from an odd half", rig.board.register(0, 1), CODE + 12);
    }

    /** Sets an immediate down as the manual's tables write it, such as "5:4|9:6|2|3", the highest bit at a place. */
    private static int scatter(int v, String layout, int high) {
        int half = 0;
        int place = high;
        for (String part : layout.split("\\|")) {
            String[] ends = part.split(":");
            int from = Integer.parseInt(ends[0]);
            int to = Integer.parseInt(ends[ends.length - 1]);
            for (int bit = from; bit >= to; bit--) {
                half |= (v >> bit & 1) << place;
                place--;
            }
        }
        return half;
    }

    private static void eachBitOfImmediates() {
        for (int v = 4; v <= 512; v *= 2) {
            leaves("addi4spn " + v, scatter(v, "5:4|9:6|2|3", 12) | 1 << 2, 9, BREAK + v);
        }
        for (int v = 16; v <= 512; v *= 2) {
            int want = v == 512 ? -512 : v;
            leaves("addi16sp " + v, 0x6101 | scatter(v, "9", 12) | scatter(v, "4|6|8:7|5", 6), 2, BREAK + want);
        }
        for (int v = 1; v <= 32; v *= 2) {
            int want = v == 32 ? -32 : v;
            int bits = scatter(v, "5", 12) | scatter(v, "4:0", 6);
            leaves("addi " + v, 0x0281 | bits, 5, 100 + want, 5, 100);
            leaves("li " + v, 0x4281 | bits, 5, want, 5, 100);
            leaves("lui " + v, 0x6281 | bits, 5, want << 12, 5, 100);
            leaves("andi " + v, 0x8801 | bits, 8, want & 0x55555555, 8, 0x55555555);
            if (v < 32) {
                leaves("slli " + v, 0x0282 | bits, 5, 3 << v, 5, 3);
                leaves("srli " + v, 0x8001 | bits, 8, -3 >>> v, 8, -3);
                leaves("srai " + v, 0x8401 | bits, 8, -300 >> v, 8, -300);
            }
        }
        for (int v = 4; v <= 64; v *= 2) {
            int bits = scatter(v, "5:3", 12) | scatter(v, "2|6", 6);
            leaves("lw " + v, 0x4000 | bits | 1 << 7 | 2 << 2, 10, 2 | 32 << 16, 9, 0x10000 - v);
            Rig rig = after(0xC000 | bits | 1 << 7 | 2 << 2, 9, RAM, 10, 1000 + v);
            Check.due("sw " + v, rig.word(RAM + v), 1000 + v);
        }
        for (int v = 4; v <= 128; v *= 2) {
            int load = scatter(v, "5", 12) | scatter(v, "4:2|7:6", 6);
            leaves("lwsp " + v, 0x4002 | load | 5 << 7, 5, 2 | 32 << 16, 2, 0x10000 - v);
            Rig rig = after(0xC002 | scatter(v, "5:2|7:6", 12) | 5 << 2, 2, RAM, 5, 1000 + v);
            Check.due("swsp " + v, rig.word(RAM + v), 1000 + v);
        }
        for (int v = 2; v <= 2048; v *= 2) {
            int bits = scatter(v, "11|4|9:8|10|6|7|3:1|5", 12);
            int want = v == 2048 ? -2048 : v;
            goes("jal " + v, 0x2001 | bits, want, CODE + 2502);
            goes("j " + v, 0xA001 | bits, want, 0);
        }
        for (int v = 2; v <= 256; v *= 2) {
            int bits = scatter(v, "8|4:3", 12) | scatter(v, "7:6|2:1|5", 6);
            int want = v == 256 ? -256 : v;
            goes("beqz " + v, 0xC001 | bits | 1 << 7, want, 0);
            goes("bnez " + v, 0xE001 | bits | 1 << 7, want, 0, 9, 0x1000);
        }
    }
}

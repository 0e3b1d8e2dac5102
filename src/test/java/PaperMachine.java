/**
 * One instruction for a process of a PaperBoard, written from the manual's tables. Halves are done as they stand there,
 * not turned into words, and every access is looked up in the sixteen entries.
 */
final class PaperMachine {
    static final int READ = 1, WRITE = 2, EXECUTE = 4;

    /** What the document calls a fault. */
    static final class Fault extends RuntimeException {
        private static final long serialVersionUID = 1L;
        final int number;
        final int value;

        Fault(int number, int value) {
            super(null, null, false, false);
            this.number = number;
            this.value = value;
        }
    }

    private final PaperBoard board;
    private PaperBoard.Proc p;
    private int next;
    private boolean called;

    PaperMachine(PaperBoard board) {
        this.board = board;
    }

    /** True for a system call. */
    boolean step(PaperBoard.Proc process) {
        p = process;
        called = false;
        int first = fetch(p.pc);
        if ((first & 3) == 3) {
            int word = first | fetch(p.pc + 2) << 16;
            next = p.pc + 4;
            doWord(word);
        } else {
            next = p.pc + 2;
            doHalf(first);
        }
        p.pc = next;
        return called;
    }

    private int fetch(int address) {
        if (!allowed(address, 2, EXECUTE)) {
            throw new Fault(1, address);
        }
        return board.peek(address, 2);
    }

    /** The least entry that has one of the bytes must have all of them, and allow it. */
    boolean allowed(int address, int bytes, int rights) {
        int[][] plan = board.plan(p);
        long low = address & 0xFFFFFFFFL;
        for (int k = 0; k < 16; k++) {
            long from;
            long to;
            long a = plan[k][0] & 0xFFFFFFFFL;
            switch (plan[k][1] >> 3) {
                case 1:
                    from = k == 0 ? 0 : (plan[k - 1][0] & 0xFFFFFFFFL) * 4;
                    to = a * 4;
                    break;
                case 2:
                    from = a * 4;
                    to = from + 4;
                    break;
                case 3:
                    long size = 8;
                    while ((a & 1) == 1) {
                        a >>= 1;
                        size *= 2;
                    }
                    from = a * (size / 2);
                    to = from + size;
                    break;
                default:
                    from = 0;
                    to = 0;
                    break;
            }
            int has = 0;
            for (long b = low; b < low + bytes; b++) {
                has += b >= from && b < to ? 1 : 0;
            }
            if (has > 0) {
                return has == bytes && (plan[k][1] & rights) == rights;
            }
        }
        return false;
    }

    private int load(int address, int bytes, boolean signed) {
        check(address, bytes, READ, 4);
        int v = board.peek(address, bytes);
        return signed ? v << 32 - 8 * bytes >> 32 - 8 * bytes : v;
    }

    private void store(int address, int bytes, int v) {
        check(address, bytes, WRITE, 6);
        board.poke(address, bytes, v);
    }

    private void check(int address, int bytes, int rights, int fault) {
        if (Integer.remainderUnsigned(address, bytes) != 0) {
            throw new Fault(fault, address);
        }
        if (!allowed(address, bytes, rights)) {
            throw new Fault(fault + 1, address);
        }
    }

    private void set(int r, int v) {
        if (r != 0) {
            p.x[r] = v;
        }
    }

    // ---- words

    private void doWord(int w) {
        String name = nameOf(w);
        int rd = w >>> 7 & 31;
        int a = p.x[w >>> 15 & 31];
        int b = p.x[w >>> 20 & 31];
        int i = w >> 20;
        int s = w >> 25 << 5 | rd;
        int j = spread(w, 31, 20, 10, 9, 8, 7, 6, 5, 4, 3, 2, 1, 11, 19, 18, 17, 16, 15, 14, 13, 12) << 11 >> 11;
        int br = (spread(w, 31, 12, 10, 9, 8, 7, 6, 5) | spread(w, 11, 4, 3, 2, 1, 11)) << 19 >> 19;
        long ua = a & 0xFFFFFFFFL;
        long ub = b & 0xFFFFFFFFL;
        switch (name) {
            case "lui": set(rd, w >>> 12 << 12); break;
            case "auipc": set(rd, p.pc + (w >>> 12 << 12)); break;
            case "jal": set(rd, p.pc + 4); next = p.pc + j; break;
            case "jalr": next = a + i & ~1; set(rd, p.pc + 4); break;
            case "beq": jumpIf(a == b, br); break;
            case "bne": jumpIf(a != b, br); break;
            case "blt": jumpIf(a < b, br); break;
            case "bge": jumpIf(a >= b, br); break;
            case "bltu": jumpIf(ua < ub, br); break;
            case "bgeu": jumpIf(ua >= ub, br); break;
            case "lb": set(rd, load(a + i, 1, true)); break;
            case "lh": set(rd, load(a + i, 2, true)); break;
            case "lw": set(rd, load(a + i, 4, true)); break;
            case "lbu": set(rd, load(a + i, 1, false)); break;
            case "lhu": set(rd, load(a + i, 2, false)); break;
            case "sb": store(a + s, 1, b); break;
            case "sh": store(a + s, 2, b); break;
            case "sw": store(a + s, 4, b); break;
            case "addi": set(rd, a + i); break;
            case "slti": set(rd, a < i ? 1 : 0); break;
            case "sltiu": set(rd, ua < (i & 0xFFFFFFFFL) ? 1 : 0); break;
            case "xori": set(rd, a ^ i); break;
            case "ori": set(rd, a | i); break;
            case "andi": set(rd, a & i); break;
            case "slli": set(rd, a << (i & 31)); break;
            case "srli": set(rd, a >>> (i & 31)); break;
            case "srai": set(rd, a >> (i & 31)); break;
            case "add": set(rd, a + b); break;
            case "sub": set(rd, a - b); break;
            case "sll": set(rd, a << b); break;
            case "slt": set(rd, a < b ? 1 : 0); break;
            case "sltu": set(rd, ua < ub ? 1 : 0); break;
            case "xor": set(rd, a ^ b); break;
            case "srl": set(rd, a >>> b); break;
            case "sra": set(rd, a >> b); break;
            case "or": set(rd, a | b); break;
            case "and": set(rd, a & b); break;
            case "mul": set(rd, a * b); break;
            case "mulh": set(rd, (int) ((long) a * b >> 32)); break;
            case "mulhsu": set(rd, java.math.BigInteger.valueOf(a).multiply(java.math.BigInteger.valueOf(ub))
                    .shiftRight(32).intValue()); break;
            case "mulhu": set(rd, java.math.BigInteger.valueOf(ua).multiply(java.math.BigInteger.valueOf(ub))
                    .shiftRight(32).intValue()); break;
            case "div": set(rd, b == 0 ? -1 : a == Integer.MIN_VALUE && b == -1 ? a : a / b); break;
            case "divu": set(rd, b == 0 ? -1 : Integer.divideUnsigned(a, b)); break;
            case "rem": set(rd, b == 0 ? a : b == -1 ? 0 : a % b); break;
            case "remu": set(rd, b == 0 ? a : Integer.remainderUnsigned(a, b)); break;
            case "fence": break;
            case "ecall": called = true; break;
            case "ebreak": throw new Fault(3, p.pc);
            case "lr": int v = load(a, 4, true); p.reserved = a; set(rd, v); break;
            case "sc": conditional(rd, a, b); break;
            case "none": throw new Fault(2, w);
            default: atomic(name, rd, a, b); break;
        }
    }

    private void jumpIf(boolean so, int offset) {
        if (so) {
            next = p.pc + offset;
        }
    }

    private void conditional(int rd, int address, int v) {
        check(address, 4, WRITE, 6);
        boolean kept = p.reserved != null && p.reserved == address;
        p.reserved = null;
        if (kept) {
            board.poke(address, 4, v);
        }
        set(rd, kept ? 0 : 1);
    }

    private void atomic(String name, int rd, int address, int v) {
        check(address, 4, READ | WRITE, 6);
        int old = board.peek(address, 4);
        int result;
        switch (name) {
            case "amoswap": result = v; break;
            case "amoadd": result = old + v; break;
            case "amoxor": result = old ^ v; break;
            case "amoand": result = old & v; break;
            case "amoor": result = old | v; break;
            case "amomin": result = Math.min(old, v); break;
            case "amomax": result = Math.max(old, v); break;
            case "amominu": result = Integer.compareUnsigned(old, v) < 0 ? old : v; break;
            case "amomaxu": result = Integer.compareUnsigned(old, v) > 0 ? old : v; break;
            default: throw new IllegalStateException(name);
        }
        board.poke(address, 4, result);
        set(rd, old);
    }

    /** The manual's table of words: bits that count, what they are, the name. */
    private static final Object[][] WORDS = {
        {0x7F, 0x37, "lui"}, {0x7F, 0x17, "auipc"}, {0x7F, 0x6F, "jal"}, {0x707F, 0x67, "jalr"},
        {0x707F, 0x0063, "beq"}, {0x707F, 0x1063, "bne"}, {0x707F, 0x4063, "blt"}, {0x707F, 0x5063, "bge"},
        {0x707F, 0x6063, "bltu"}, {0x707F, 0x7063, "bgeu"},
        {0x707F, 0x0003, "lb"}, {0x707F, 0x1003, "lh"}, {0x707F, 0x2003, "lw"}, {0x707F, 0x4003, "lbu"},
        {0x707F, 0x5003, "lhu"}, {0x707F, 0x0023, "sb"}, {0x707F, 0x1023, "sh"}, {0x707F, 0x2023, "sw"},
        {0x707F, 0x0013, "addi"}, {0x707F, 0x2013, "slti"}, {0x707F, 0x3013, "sltiu"}, {0x707F, 0x4013, "xori"},
        {0x707F, 0x6013, "ori"}, {0x707F, 0x7013, "andi"}, {0xFE00707F, 0x1013, "slli"},
        {0xFE00707F, 0x5013, "srli"}, {0xFE00707F, 0x40005013, "srai"},
        {0xFE00707F, 0x33, "add"}, {0xFE00707F, 0x40000033, "sub"}, {0xFE00707F, 0x1033, "sll"},
        {0xFE00707F, 0x2033, "slt"}, {0xFE00707F, 0x3033, "sltu"}, {0xFE00707F, 0x4033, "xor"},
        {0xFE00707F, 0x5033, "srl"}, {0xFE00707F, 0x40005033, "sra"}, {0xFE00707F, 0x6033, "or"},
        {0xFE00707F, 0x7033, "and"},
        {0xFE00707F, 0x02000033, "mul"}, {0xFE00707F, 0x02001033, "mulh"}, {0xFE00707F, 0x02002033, "mulhsu"},
        {0xFE00707F, 0x02003033, "mulhu"}, {0xFE00707F, 0x02004033, "div"}, {0xFE00707F, 0x02005033, "divu"},
        {0xFE00707F, 0x02006033, "rem"}, {0xFE00707F, 0x02007033, "remu"},
        {0x707F, 0x000F, "fence"}, {0x707F, 0x100F, "fence"}, {-1, 115, "ecall"}, {-1, 1048691, "ebreak"},
        {0xF9F0707F, 0x1000202F, "lr"}, {0xF800707F, 0x1800202F, "sc"}, {0xF800707F, 0x0800202F, "amoswap"},
        {0xF800707F, 0x0000202F, "amoadd"}, {0xF800707F, 0x2000202F, "amoxor"}, {0xF800707F, 0x6000202F, "amoand"},
        {0xF800707F, 0x4000202F, "amoor"}, {0xF800707F, 0x8000202F, "amomin"}, {0xF800707F, 0xA000202F, "amomax"},
        {0xF800707F, 0xC000202F, "amominu"}, {0xF800707F, 0xE000202F, "amomaxu"},
    };

    private static String nameOf(int w) {
        for (Object[] row : WORDS) {
            if ((w & (Integer) row[0]) == (Integer) row[1]) {
                return (String) row[2];
            }
        }
        return "none";
    }

    // ---- halves

    /** Bits of v from a place downwards, each set down where the list says. */
    private static int spread(int v, int from, int... to) {
        int all = 0;
        for (int i = 0; i < to.length; i++) {
            all |= (v >>> from - i & 1) << to[i];
        }
        return all;
    }

    private static int signed(int v, int bits) {
        return v << 32 - bits >> 32 - bits;
    }

    private void doHalf(int h) {
        int low = 8 + (h >> 2 & 7);
        int high = 8 + (h >> 7 & 7);
        int rd = h >> 7 & 31;
        int rs = h >> 2 & 31;
        int six = signed(spread(h, 12, 5) | spread(h, 6, 4, 3, 2, 1, 0), 6);
        int word = spread(h, 12, 5, 4, 3) | spread(h, 6, 2, 6);
        int far = signed(spread(h, 12, 11, 4, 9, 8, 10, 6, 7, 3, 2, 1, 5), 12);
        int near = signed(spread(h, 12, 8, 4, 3) | spread(h, 6, 7, 6, 2, 1, 5), 9);
        switch ((h & 3) << 3 | h >> 13) {
            case 0:
                int up = spread(h, 12, 5, 4, 9, 8, 7, 6, 2, 3);
                must(up != 0, h);
                set(low, p.x[2] + up);
                break;
            case 2: set(low, load(p.x[high] + word, 4, true)); break;
            case 6: store(p.x[high] + word, 4, p.x[low]); break;
            case 8: set(rd, p.x[rd] + six); break;
            case 9: set(1, p.pc + 2); next = p.pc + far; break;
            case 10: set(rd, six); break;
            case 11: upper(h, rd, six); break;
            case 12: calculate(h, high, low, six); break;
            case 13: next = p.pc + far; break;
            case 14: jumpIf(p.x[high] == 0, near); break;
            case 15: jumpIf(p.x[high] != 0, near); break;
            case 16:
                must((h >> 12 & 1) == 0, h);
                set(rd, p.x[rd] << rs);
                break;
            case 18:
                must(rd != 0, h);
                set(rd, load(p.x[2] + (spread(h, 12, 5) | spread(h, 6, 4, 3, 2, 7, 6)), 4, true));
                break;
            case 20: jumpOrMove(h, rd, rs); break;
            case 22: store(p.x[2] + spread(h, 12, 5, 4, 3, 2, 7, 6), 4, p.x[rs]); break;
            default: must(false, h); break;
        }
    }

    private static void must(boolean so, int h) {
        if (!so) {
            throw new Fault(2, h);
        }
    }

    private void upper(int h, int rd, int six) {
        if (rd == 2) {
            int v = signed(spread(h, 12, 9) | spread(h, 6, 4, 6, 8, 7, 5), 10);
            must(v != 0, h);
            set(2, p.x[2] + v);
        } else {
            must(six != 0, h);
            set(rd, six << 12);
        }
    }

    private void calculate(int h, int rd, int rs, int six) {
        int a = p.x[rd];
        int b = p.x[rs];
        switch (h >> 10 & 3) {
            case 0: must(six >= 0, h); set(rd, a >>> six); break;
            case 1: must(six >= 0, h); set(rd, a >> six); break;
            case 2: set(rd, a & six); break;
            default:
                must((h >> 12 & 1) == 0, h);
                int[] results = {a - b, a ^ b, a | b, a & b};
                set(rd, results[h >> 5 & 3]);
                break;
        }
    }

    private void jumpOrMove(int h, int rd, int rs) {
        boolean second = (h >> 12 & 1) == 1;
        if (rs != 0) {
            set(rd, second ? p.x[rd] + p.x[rs] : p.x[rs]);
        } else if (rd != 0) {
            next = p.x[rd] & ~1;
            if (second) {
                set(1, p.pc + 2);
            }
        } else if (second) {
            throw new Fault(3, p.pc);
        } else {
            must(false, h);
        }
    }
}

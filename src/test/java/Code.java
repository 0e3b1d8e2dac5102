import java.util.ArrayList;
import java.util.HashMap;
import java.util.List;
import java.util.Map;

/** A small assembler: instructions in the order in which they are added, with labels. */
final class Code {
    static final int RA = 1, SP = 2, T0 = 5, T1 = 6, T2 = 7, S0 = 8, S1 = 9;
    static final int A0 = 10, A1 = 11, A2 = 12, A3 = 13, A4 = 14, A5 = 15, S2 = 18, S3 = 19, S4 = 20;

    private final List<Byte> bytes = new ArrayList<>();
    private final Map<String, Integer> labels = new HashMap<>();
    private final List<Object[]> fixes = new ArrayList<>();

    int here() {
        return bytes.size();
    }

    int at(String label) {
        return labels.get(label);
    }

    Code half(int h) {
        bytes.add((byte) h);
        bytes.add((byte) (h >> 8));
        return this;
    }

    Code word(int w) {
        return half(w).half(w >>> 16);
    }

    Code text(String s) {
        for (char c : s.toCharArray()) {
            bytes.add((byte) c);
        }
        return align();
    }

    Code align() {
        while (bytes.size() % 4 != 0) {
            bytes.add((byte) 0);
        }
        return this;
    }

    Code label(String name) {
        labels.put(name, here());
        return this;
    }

    static int iType(int op, int kind, int rd, int rs, int v) {
        return v << 20 | rs << 15 | kind << 12 | rd << 7 | op;
    }

    static int rType(int op, int kind, int high, int rd, int rs1, int rs2) {
        return high << 25 | rs2 << 20 | rs1 << 15 | kind << 12 | rd << 7 | op;
    }

    static int sType(int kind, int base, int from, int v) {
        return v >> 5 << 25 | from << 20 | base << 15 | kind << 12 | (v & 31) << 7 | 0x23;
    }

    static int bType(int kind, int a, int b, int v) {
        return (v >> 12 & 1) << 31 | (v >> 5 & 63) << 25 | b << 20 | a << 15 | kind << 12
                | (v >> 1 & 15) << 8 | (v >> 11 & 1) << 7 | 0x63;
    }

    static int jType(int rd, int v) {
        return (v >> 20 & 1) << 31 | (v >> 1 & 0x3FF) << 21 | (v >> 11 & 1) << 20 | v & 0xFF000 | rd << 7 | 0x6F;
    }

    Code lui(int rd, int v) {
        return word(v & 0xFFFFF000 | rd << 7 | 0x37);
    }

    Code addi(int rd, int rs, int v) {
        return word(iType(0x13, 0, rd, rs, v));
    }

    Code mv(int rd, int rs) {
        return addi(rd, rs, 0);
    }

    Code nop() {
        return addi(0, 0, 0);
    }

    /** One instruction for small numbers, two for others. */
    Code li(int rd, int v) {
        if (v >= -2048 && v < 2048) {
            return addi(rd, 0, v);
        }
        lui(rd, v + 0x800);
        return addi(rd, rd, v << 20 >> 20);
    }

    /** Always two instructions: the address of a label. */
    Code la(int rd, String label) {
        fixes.add(new Object[] {"la", here(), label});
        word(rd << 7 | 0x17);
        return addi(rd, rd, 0);
    }

    Code op(int kind, int high, int rd, int a, int b) {
        return word(rType(0x33, kind, high, rd, a, b));
    }

    Code add(int rd, int a, int b) {
        return op(0, 0, rd, a, b);
    }

    Code lw(int rd, int base, int v) {
        return word(iType(3, 2, rd, base, v));
    }

    Code sw(int base, int from, int v) {
        return word(sType(2, base, from, v));
    }

    Code sb(int base, int from, int v) {
        return word(sType(0, base, from, v));
    }

    Code jal(int rd, String label) {
        fixes.add(new Object[] {"jal", here(), label});
        return word(rd << 7 | 0x6F);
    }

    Code j(String label) {
        return jal(0, label);
    }

    Code branch(int kind, int a, int b, String label) {
        fixes.add(new Object[] {"branch", here(), label});
        return word(bType(kind, a, b, 0));
    }

    Code jr(int rs) {
        return word(iType(0x67, 0, 0, rs, 0));
    }

    Code ret() {
        return jr(RA);
    }

    Code ecall() {
        return word(0x73);
    }

    Code ebreak() {
        return word(0x00100073);
    }

    Code spin() {
        return word(jType(0, 0));
    }

    Code call(int number, int a0, int a1, int a2, int a3) {
        return li(A0, a0).li(A1, a1).li(A2, a2).li(A3, a3).li(A4, number).ecall();
    }

    Code yieldNow(int flag) {
        return call(0, 0, flag, 0, 0);
    }

    Code yieldWait() {
        return li(A0, 1).li(A4, 0).ecall();
    }

    Code yieldFor(int driver, int number) {
        return call(0, 2, driver, number, 0);
    }

    Code subscribe(int driver, int number, String function, int data) {
        return li(A0, driver).li(A1, number).la(A2, function).li(A3, data).li(A4, 1).ecall();
    }

    Code command(int driver, int command, int v, int w) {
        return call(2, driver, command, v, w);
    }

    Code allowWrite(int driver, int buffer, int address, int size) {
        return call(3, driver, buffer, address, size);
    }

    Code allowRead(int driver, int buffer, int address, int size) {
        return call(4, driver, buffer, address, size);
    }

    Code allowReadLabel(int driver, int buffer, String label, int size) {
        return li(A0, driver).li(A1, buffer).la(A2, label).li(A3, size).li(A4, 4).ecall();
    }

    Code exit(int how, int code) {
        return li(A0, how).li(A1, code).li(A4, 6).ecall();
    }

    /** Keeps a0 .. a3 in RAM: the answer of the latest call. */
    Code keep(int address) {
        li(T0, address);
        return sw(T0, A0, 0).sw(T0, A1, 4).sw(T0, A2, 8).sw(T0, A3, 12);
    }

    byte[] done() {
        byte[] all = new byte[bytes.size()];
        for (int i = 0; i < all.length; i++) {
            all[i] = bytes.get(i);
        }
        for (Object[] fix : fixes) {
            int at = (Integer) fix[1];
            int offset = labels.get((String) fix[2]) - at;
            int word = get(all, at);
            if (fix[0].equals("jal")) {
                put(all, at, jType(word >>> 7 & 31, offset));
            } else if (fix[0].equals("branch")) {
                put(all, at, bType(word >>> 12 & 7, word >>> 15 & 31, word >>> 20 & 31, offset));
            } else {
                put(all, at, word | offset + 0x800 & 0xFFFFF000);
                put(all, at + 4, get(all, at + 4) | offset << 20);
            }
        }
        return all;
    }

    static int get(byte[] b, int at) {
        return b[at] & 255 | (b[at + 1] & 255) << 8 | (b[at + 2] & 255) << 16 | (b[at + 3] & 255) << 24;
    }

    static void put(byte[] b, int at, int v) {
        for (int i = 0; i < 4; i++) {
            b[at + i] = (byte) (v >>> 8 * i);
        }
    }
}

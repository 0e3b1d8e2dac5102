import java.io.ByteArrayOutputStream;
import java.util.zip.CRC32;

/** Builds the bytes of an app: a head with elements, its code, and credentials if asked for. */
final class App {
    private final ByteArrayOutputStream elements = new ByteArrayOutputStream();
    private byte[] code = new byte[0];
    private int flags = 1;
    private int total = 0;
    private boolean signed = false;
    private boolean spoilt = false;
    private int programAt = -1;

    /** An app with a plain element 1 that starts at its code's first byte. */
    static App plain(int ram) {
        return new App().main(0, ram);
    }

    static App program(int ram, int version) {
        return new App().nine(0, ram, version);
    }

    static App of(int ram, Code code) {
        return plain(ram).code(code);
    }

    private void half(int v) {
        elements.write(v);
        elements.write(v >> 8);
    }

    private void word(int v) {
        half(v);
        half(v >>> 16);
    }

    App element(int type, byte... content) {
        half(type);
        half(content.length);
        elements.writeBytes(content);
        elements.writeBytes(new byte[(4 - content.length % 4) % 4]);
        return this;
    }

    static byte[] words(int... v) {
        byte[] b = new byte[4 * v.length];
        for (int i = 0; i < v.length; i++) {
            Code.put(b, 4 * i, v[i]);
        }
        return b;
    }

    App main(int start, int ram) {
        return element(1, words(start, 0, ram));
    }

    /** The binary end is set as the app is built: behind the code. */
    App nine(int start, int ram, int version) {
        programAt = 16 + elements.size() + 4;
        return element(9, words(start, 0, ram, 0, version));
    }

    App name(String s) {
        byte[] b = new byte[s.length()];
        for (int i = 0; i < b.length; i++) {
            b[i] = (byte) s.charAt(i);
        }
        return element(3, b);
    }

    App storeNumber(int n) {
        return element(7, words(n));
    }

    App permissions(int... pairs) {
        return element(8, words(pairs));
    }

    App raw(int... halves) {
        for (int h : halves) {
            half(h);
        }
        return this;
    }

    App code(Code c) {
        code = c.align().done();
        return this;
    }

    App flags(int f) {
        flags = f;
        return this;
    }

    App total(int n) {
        total = n;
        return this;
    }

    App signed() {
        signed = true;
        return this;
    }

    App spoilt() {
        spoilt = true;
        return this;
    }

    int headSize() {
        return 16 + elements.size();
    }

    byte[] bytes() {
        int head = headSize();
        int end = head + code.length;
        int all = Math.max(total, end + (signed ? 12 : 0));
        byte[] b = new byte[all];
        b[0] = 2;
        b[2] = (byte) head;
        b[3] = (byte) (head >> 8);
        Code.put(b, 4, all);
        Code.put(b, 8, flags);
        System.arraycopy(elements.toByteArray(), 0, b, 16, head - 16);
        System.arraycopy(code, 0, b, head, code.length);
        if (programAt >= 0) {
            Code.put(b, programAt + 12, end);
        }
        check(b, head);
        if (signed) {
            sign(b, end);
        }
        if (spoilt) {
            b[12] ^= 1;
        }
        return b;
    }

    static void check(byte[] b, int head) {
        Code.put(b, 12, 0);
        int sum = 0;
        for (int i = 0; i < head; i += 4) {
            sum ^= Code.get(b, i);
        }
        Code.put(b, 12, sum);
    }

    static void sign(byte[] b, int end) {
        CRC32 crc = new CRC32();
        crc.update(b, 0, end);
        Code.put(b, end, 8 << 16 | 128);
        Code.put(b, end + 4, 1);
        Code.put(b, end + 8, (int) crc.getValue());
    }
}

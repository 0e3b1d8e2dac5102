import java.io.ByteArrayOutputStream;

/** A board with what tests need around it. */
final class Rig {
    static final int FLASH = 0x10000, STORE = 0x1F000, RAM = 0x20000;

    final GrantBoard board = new GrantBoard();

    /** Burns apps one behind the other from the beginning of flash on. */
    static Rig with(App... apps) {
        Rig rig = new Rig();
        ByteArrayOutputStream all = new ByteArrayOutputStream();
        for (App app : apps) {
            all.writeBytes(app.bytes());
        }
        rig.burn(FLASH, all.toByteArray());
        return rig;
    }

    /** An app alone on a board that runs it with one long slice. */
    static Rig running(App app) {
        Rig rig = with(app);
        Check.due("boot", rig.board.boot(0, 1000, 0, false, 0), 1);
        return rig;
    }

    static Rig running(int ram, Code code) {
        return running(App.of(ram, code));
    }

    Rig burn(int address, byte[] bytes) {
        for (int from = 0; from < bytes.length; from += 8180) {
            int n = Math.min(8180, bytes.length - from);
            for (int i = 0; i < n; i += 20) {
                board.feed(big(bytes, from + i), big(bytes, from + i + 4), big(bytes, from + i + 8),
                        big(bytes, from + i + 12), big(bytes, from + i + 16));
            }
            Check.due("end", board.end(n), n);
            Check.due("burn", board.burn(address + from), n);
        }
        return this;
    }

    Rig burnWords(int address, int... words) {
        return burn(address, App.words(words));
    }

    private static int big(byte[] b, int at) {
        int v = 0;
        for (int i = 0; i < 4; i++) {
            v = v << 8 | (at + i < b.length ? b[at + i] & 255 : 0);
        }
        return v;
    }

    Rig boot() {
        board.boot(0, 1000, 0, false, 0);
        return this;
    }

    Rig run(int n) {
        Check.due("run", board.run(n), n);
        return this;
    }

    int word(int address) {
        int v = 0;
        for (int i = 3; i >= 0; i--) {
            v = v << 8 | board.memory(address + i);
        }
        return v;
    }

    /** Four words of RAM, as Code.keep() leaves them; a null is not looked at. */
    void kept(String what, int address, Integer... want) {
        for (int i = 0; i < want.length; i++) {
            if (want[i] != null) {
                Check.due(what + " a" + i, word(address + 4 * i), want[i]);
            }
        }
    }

    void state(String what, int process, int want) {
        Check.due(what + " state", board.process(process, 0), want);
    }

    /** Time is not looked at. */
    void event(String what, int k, int process, int kind, int number) {
        Check.due(what + " process", board.event(k, 1), process);
        Check.due(what + " kind", board.event(k, 2), kind);
        Check.due(what + " number", board.event(k, 3), number);
    }
}

import java.util.Arrays;
import java.util.Random;

/** GrantBoard against PaperBoard, the document written down a second time: random apps, random calls, each answer. */
public final class PaperRunsTest {
    private static final int[] ODD = {0, 1, -1, 2, -2, 3, 4, 5, 7, 8, 9, 11, 12, 14, 15, 16, 31, 32, 100, 101, 199, 200,
        255, 256, 1000, 1001, 3999, 4000, 8192, 10000, 10001, 20000, 20001, 0xFFFF, 0x10000, 0x1F000, 0x1FFFF, 0x20000,
        0x20001, 0x2FFFF, 0x30000, 0x7FFFFFFF, 0x80000000};

    private final Random r;
    private final String name;
    private final GrantBoard board = new GrantBoard();
    private final PaperBoard paper = new PaperBoard();

    private PaperRunsTest(int seed) {
        r = new Random(seed);
        name = "run " + seed + " ";
    }

    public static void main(String[] args) {
        int first = args.length > 0 ? Integer.parseInt(args[0]) : 0;
        int behind = args.length > 1 ? Integer.parseInt(args[1]) : first + 250;
        for (int seed = first; seed < behind; seed++) {
            new PaperRunsTest(seed).play();
        }
        Check.finish();
    }

    private void same(String what, int got, int want) {
        Check.due(name + what, got, want);
    }

    private void play() {
        int n = 1 + r.nextInt(r.nextInt(4) == 0 ? 10 : 4);
        int at = 0x10000;
        for (int i = 0; i < n && at < 0x1E000; i++) {
            byte[] bytes = RandomApp.make(r).bytes();
            burn(at, bytes);
            at += bytes.length;
        }
        if (r.nextInt(3) == 0) {
            burnStore();
        }
        boot();
        for (int i = 0; i < 60; i++) {
            call();
            if (r.nextInt(6) == 0) {
                compareAll();
            }
        }
        compareAll();
        compareCells();
    }

    private void burn(int address, byte[] bytes) {
        for (int i = 0; i < bytes.length; i += 20) {
            int[] w = new int[5];
            for (int j = 0; j < 20 && i + j < bytes.length; j++) {
                w[j / 4] |= (bytes[i + j] & 255) << 24 - 8 * (j % 4);
            }
            board.feed(w[0], w[1], w[2], w[3], w[4]);
            paper.feed(w);
        }
        same("end", board.end(bytes.length), paper.end(bytes.length));
        same("burn", board.burn(address), paper.burn(address));
    }

    /** Banks with serials that lie near one another, some sound records, and now and then something odd behind. */
    private void burnStore() {
        for (int b = 0; b < 2; b++) {
            int[] words = new int[512];
            Arrays.fill(words, -1);
            words[0] = r.nextInt(6) == 0 ? r.nextInt() : 0x4B560000 | (b == 0 ? 0 : r.nextInt(3) - 1) & 0xFFFF;
            int at = 1;
            for (int i = r.nextInt(60); i > 0 && at < 500; i--) {
                int length = r.nextInt(5) == 0 ? 255 : r.nextInt(33);
                int n = length == 255 ? 0 : (length + 3) / 4;
                words[at] = r.nextInt(3);
                words[at + 1] = r.nextInt(5);
                words[at + 2] = length;
                int sum = 0x5A5A5A5A;
                for (int k = 0; k < 3 + n && at + k < 511; k++) {
                    words[at + k] = k < 3 ? words[at + k] : r.nextInt();
                    sum ^= words[at + k];
                }
                at += 3 + n;
                if (at < 512) {
                    words[at] = r.nextInt(40) == 0 ? 7 : sum;
                }
                at++;
            }
            if (r.nextInt(4) == 0) {
                words[1 + r.nextInt(511)] ^= 1 << r.nextInt(32);
            }
            burn(0x1F000 + 2048 * b, App.words(words));
        }
    }

    private void boot() {
        int scheduler = r.nextInt(3);
        int slice = 1 + r.nextInt(r.nextInt(4) == 0 ? 60 : 6);
        int limit = r.nextInt(r.nextInt(3) == 0 ? 101 : 6);
        boolean strict = r.nextInt(6) == 0;
        int seed = r.nextInt();
        int booted = paper.boot(scheduler, slice, limit, strict, seed);
        same("boot", board.boot(scheduler, slice, limit, strict, seed), booted);
        if (booted >= 0 && r.nextInt(8) == 0) {
            int time = (r.nextBoolean() ? 0 : 0x80000000) - r.nextInt(2000);
            Inside.setTime(board, time);
            paper.time = time;
        }
    }

    private int odd() {
        switch (r.nextInt(4)) {
            case 0:
                return r.nextInt(5);
            case 1:
                return r.nextInt();
            default:
                return ODD[r.nextInt(ODD.length)];
        }
    }

    private void call() {
        int a = r.nextInt(4);
        boolean b = r.nextBoolean();
        switch (r.nextInt(14)) {
            case 0:
            case 1:
                same("press " + a, board.press(a, b), paper.press(a, b));
                break;
            case 2:
            case 3:
                int typed = r.nextInt(256);
                same("type " + typed, board.type(typed), paper.type(typed));
                break;
            case 4:
                boolean held = r.nextInt(3) == 0;
                same("hold " + a, board.hold(a, held), paper.hold(a, held));
                break;
            case 5:
                int v = r.nextInt();
                same("level", board.level(a & 1, v), paper.level(a & 1, v));
                break;
            case 6:
                if (r.nextInt(3) == 0) {
                    same("restart " + a, board.restart(a), paper.restart(a));
                }
                break;
            case 7:
                if (r.nextInt(3) == 0) {
                    int n = r.nextInt(60);
                    same("cut", board.cut(n), paper.cut(n));
                }
                break;
            case 8:
                if (r.nextInt(6) == 0) {
                    same("off", board.off(), paper.off());
                }
                boot();
                break;
            case 9:
                oddCall();
                break;
            default:
                int ticks = 1 + r.nextInt(r.nextInt(5) == 0 ? 3000 : 150);
                same("run " + ticks, board.run(ticks), paper.run(ticks));
                break;
        }
    }

    private void oddCall() {
        int a = odd();
        int b = odd();
        int c = odd();
        int d = odd();
        boolean yes = r.nextBoolean();
        switch (r.nextInt(20)) {
            case 0: same("feed", board.feed(a, b, c, d, 5), paper.feed(a, b, c, d, 5)); break;
            case 1: same("end " + a, board.end(a), paper.end(a)); break;
            case 2: same("burn " + a, board.burn(a), paper.burn(a)); break;
            case 3: same("boot", board.boot(a, b, c, yes, d), paper.boot(a, b, c, yes, d)); break;
            case 4: same("cut " + a, board.cut(a), paper.cut(a)); break;
            case 5: same("run " + a, board.run(a), paper.run(a)); break;
            case 6: same("press " + a, board.press(a, yes), paper.press(a, yes)); break;
            case 7: same("type " + a, board.type(a), paper.type(a)); break;
            case 8: same("level " + a, board.level(a, b), paper.level(a, b)); break;
            case 9: same("hold " + a, board.hold(a, yes), paper.hold(a, yes)); break;
            case 10: same("restart " + a, board.restart(a), paper.restart(a)); break;
            case 11: same("count " + a, board.count(a), paper.count(a)); break;
            case 12: same("process " + a + " " + b, board.process(a, b), paper.process(a, b)); break;
            case 13: same("register " + a + " " + b, board.register(a, b), paper.register(a, b)); break;
            case 14: same("memory " + a, board.memory(a), paper.memory(a)); break;
            case 15: same("entry", board.entry(a, b, c), paper.entry(a, b, c)); break;
            case 16: same("upcall", board.upcall(a, b, c), paper.upcall(a, b, c)); break;
            case 17: same("grant", board.grant(a, b), paper.grant(a, b)); break;
            case 18: same("event", board.event(a, b), paper.event(a, b)); break;
            default: same("stored", board.stored(a, b, c), paper.stored(a, b, c)); break;
        }
    }

    private void compareAll() {
        same("audit", board.audit(), 0);
        for (int what = 0; what < 12; what++) {
            same("count " + what, board.count(what), paper.count(what));
        }
        for (int k = 0; k < 4; k++) {
            same("lamp " + k, board.lamp(k), paper.lamp(k));
        }
        for (int k = 0; k < 12; k++) {
            for (int what = 0; what < 4; what++) {
                same("event " + k + " " + what, board.event(k, what), paper.event(k, what));
            }
        }
        for (int i = 0; i < 9; i++) {
            compareProcess(i);
        }
        for (int i = 0; i < 12; i++) {
            int number = r.nextInt(3);
            int key = r.nextInt(5);
            int at = r.nextInt(34) - 1;
            same("stored", board.stored(number, key, at), paper.stored(number, key, at));
            int byteOut = i == 0 ? 0 : r.nextInt(1 + Math.max(0, paper.count(3)));
            same("out " + byteOut, board.out(byteOut), paper.out(byteOut));
        }
    }

    private void compareProcess(int i) {
        String who = "process " + i + " ";
        for (int what = 0; what < 15; what++) {
            same(who + what, board.process(i, what), paper.process(i, what));
        }
        for (int x = 0; x < 32; x++) {
            same(who + "x" + x, board.register(i, x), paper.register(i, x));
        }
        for (int k = 0; k < 5; k++) {
            same(who + "entry " + k, board.entry(i, k, 0), paper.entry(i, k, 0));
            same(who + "entry " + k, board.entry(i, k, 1), paper.entry(i, k, 1));
        }
        for (int k = 0; k < 11; k++) {
            for (int what = 0; what < 5; what++) {
                same(who + "upcall " + k, board.upcall(i, k, what), paper.upcall(i, k, what));
            }
        }
        for (int driver = 0; driver < 9; driver++) {
            same(who + "grant " + driver, board.grant(i, driver), paper.grant(i, driver));
        }
    }

    private void compareCells() {
        paper.writeControls();
        for (int address = 0x10000; address < 0x30000; address++) {
            if (board.memory(address) != (paper.cells[address] & 255)) {
                same("memory " + Integer.toHexString(address), board.memory(address), paper.cells[address] & 255);
            }
        }
    }
}

/** Part 1 and promises 1 to 7: each bound that the document names, one below and one beyond it, and refused calls. */
public final class EdgesMakerTest {
    private static final int NONE = GrantBoard.NONE, OUTSIDE = GrantBoard.OUTSIDE, STATE = GrantBoard.STATE,
            LOST = GrantBoard.LOST;
    private static final int MIN = 0x80000000, MAX = 0x7FFFFFFF;
    private static final int ONE = 0x1F000, TWO = 0x1F800, MARK = 0x4B560000;

    public static void main(String[] args) {
        flashAndRamAtFirst();
        whatStaysWhenOff();
        whatStaysWhenPowerGoes();
        tapeOf8192();
        endBounds();
        burnBounds();
        burnRefusedEmptiesTheTape();
        bootBounds();
        bootAnswersInOrder();
        bootRefusedChangesNothing();
        offTwice();
        cutBounds();
        cutIsFromNowOn();
        cutAtTheTenThousandth();
        powerGoesOnce();
        halfErasedAtBoot();
        halfErasedWhenCompacted();
        halfErasedInARun();
        offAtOnce();
        Check.finish();
    }

    /** FLASH 0x10000 .. 0x1FFFF, at first all 255; RAM 0x20000 .. 0x2FFFF, 0 while it is OFF. */
    private static void flashAndRamAtFirst() {
        for (int from = 0x10000; from < 0x30000; from += 256) {
            GrantBoard b = new GrantBoard();
            int wrong = 0;
            for (int i = 0; i < 256; i++) {
                wrong += b.memory(from + i) == (from < 0x20000 ? 255 : 0) ? 0 : 1;
            }
            Check.due("at first from " + Integer.toHexString(from), wrong, 0);
        }
        GrantBoard b = new GrantBoard();
        int[] outside = {0xFFFF, 0x30000, 0, -1, MIN, MAX, 0x110000, 0x80020000};
        for (int address : outside) {
            Check.due("no byte at " + Integer.toHexString(address), b.memory(address), NONE);
        }
    }

    private static App lampsAndText() {
        return App.plain(64).storeNumber(1).code(new Code().li(5, 7).sw(Code.SP, 5, -4)
                .allowReadLabel(1, 1, "t", 2).command(2, 1, 0, 0).command(2, 1, 3, 0).command(1, 1, 2, 0)
                .yieldFor(1, 1).command(5, 2, 1, 0).spin().label("t").text("ok"));
    }

    private static void stayed(String what, GrantBoard b, Rig rig) {
        Check.due(what + ": off", b.count(0), 0);
        Check.due(what + ": no process", b.count(1), 0);
        Check.due(what + ": no time", b.count(2), 0);
        Check.due(what + ": ram", rig.word(0x20000 + 60), 0);
        Check.due(what + ": control", rig.word(0x20000 + 1024 - 60), 0);
        Check.due(what + ": flash", b.memory(0x10000), 2);
        Check.due(what + ": put out", b.out(1), 'k');
        Check.due(what + ": lamp 0", b.lamp(0), 1);
        Check.due(what + ": lamp 1", b.lamp(1), 0);
        Check.due(what + ": lamp 3", b.lamp(3), 1);
        Check.due(what + ": the tape is still there", b.end(20), 20);
        Check.due(what + ": and no more", b.end(21), OUTSIDE);
    }

    /** While it is OFF, RAM is 0 and there is no process; FLASH, what was put out, lamps, and the TAPE stay. */
    private static void whatStaysWhenOff() {
        Rig rig = Rig.running(lampsAndText()).run(100);
        Check.due("ram before", rig.word(0x20000 + 60), 7);
        rig.board.feed(1, 2, 3, 4, 5);
        rig.board.off();
        stayed("off", rig.board, rig);
        Check.due("the tape can be burnt then", rig.board.burn(0x1A000), 20);
        Check.due("its last byte", rig.board.memory(0x1A000 + 19), 5);
    }

    private static void whatStaysWhenPowerGoes() {
        Rig rig = Rig.running(lampsAndText());
        rig.board.feed(1, 2, 3, 4, 5);
        rig.board.cut(0);
        Check.due("power goes", rig.board.run(200), LOST);
        stayed("lost", rig.board, rig);
    }

    private static GrantBoard tape(int n) {
        GrantBoard b = new GrantBoard();
        for (int i = 0; i * 20 < n && i < 409; i++) {
            b.feed(-1, -1, -1, -1, -1);
        }
        if (n > 8180) {
            b.end(n - 20);
            b.feed(-1, -1, -1, -1, -1);
        }
        Check.due("tape of " + n, b.end(n), n);
        return b;
    }

    /** 8192 bytes at most: NONE when there would be more, and the tape is as it was. */
    private static void tapeOf8192() {
        Check.due("to 8191", tape(8171).feed(1, 2, 3, 4, 5), 8191);
        Check.due("to 8192", tape(8172).feed(1, 2, 3, 4, 5), 8192);
        for (int n = 8173; n <= 8192; n++) {
            GrantBoard b = tape(n);
            Check.due("to " + (n + 20), b.feed(0, 0, 0, 0, 0), NONE);
            Check.due("no byte more", b.end(n + 1), OUTSIDE);
            Check.due("as it was", b.burn(0x10000), n);
            Check.due("its last byte as it was", b.memory(0x10000 + n - 1), 255);
            Check.due("room again", b.feed(0, 0, 0, 0, 0), 20);
        }
    }

    private static void endBounds() {
        GrantBoard b = new GrantBoard();
        Check.due("empty: 0", b.end(0), 0);
        Check.due("empty: 1", b.end(1), OUTSIDE);
        Check.due("empty: -1", b.end(-1), OUTSIDE);
        b.feed(1, 2, 3, 4, 5);
        int[] outside = {21, -1, MIN, MAX, 8192};
        for (int n : outside) {
            Check.due("end " + n, b.end(n), OUTSIDE);
        }
        Check.due("all", b.end(20), 20);
        Check.due("one less", b.end(19), 19);
        Check.due("it is cut", b.end(20), OUTSIDE);
        Check.due("none", b.end(0), 0);
        Check.due("cut at once", b.end(1), OUTSIDE);
    }

    private static int burnt(int n, int address) {
        return tape(n).burn(address);
    }

    /** OUTSIDE when not all of it would lie in FLASH; of an empty one, an address beyond 0x10000 .. 0x20000. */
    private static void burnBounds() {
        Check.due("1 at the first", burnt(1, 0x10000), 1);
        Check.due("1 before it", burnt(1, 0xFFFF), OUTSIDE);
        Check.due("1 at the last", burnt(1, 0x1FFFF), 1);
        Check.due("1 behind it", burnt(1, 0x20000), OUTSIDE);
        Check.due("2 at the last but one", burnt(2, 0x1FFFE), 2);
        Check.due("2 at the last", burnt(2, 0x1FFFF), OUTSIDE);
        Check.due("2 around the first", burnt(2, 0xFFFF), OUTSIDE);
        Check.due("8192 at the end", burnt(8192, 0x1E000), 8192);
        Check.due("8192 one further", burnt(8192, 0x1E001), OUTSIDE);
        Check.due("wrapping", burnt(20, -10), OUTSIDE);
        Check.due("at the greatest", burnt(20, MAX), OUTSIDE);
        Check.due("at the least", burnt(20, MIN), OUTSIDE);
        Check.due("into ram", burnt(20, 0x21000), OUTSIDE);
        int[] empty = {0x10000, 0x10001, 0x1FFFF, 0x20000};
        for (int address : empty) {
            Check.due("empty at " + Integer.toHexString(address), new GrantBoard().burn(address), 0);
        }
        int[] outside = {0xFFFF, 0x20001, 0, -1, MIN, MAX};
        for (int address : outside) {
            Check.due("empty at " + Integer.toHexString(address), new GrantBoard().burn(address), OUTSIDE);
        }
    }

    /** The tape is empty then also with STATE and OUTSIDE; nothing else changes. STATE comes first. */
    private static void burnRefusedEmptiesTheTape() {
        Twins off = new Twins(() -> Rig.with(lampsAndText()));
        off.refused("outside", OUTSIDE, b -> {
            b.feed(1, 2, 3, 4, 5);
            return b.burn(0x1FFFF);
        }).refused("empty then", OUTSIDE, b -> b.end(1)).finish("burn outside");
        Twins on = new Twins(() -> Rig.running(lampsAndText()).run(50));
        on.refused("state", STATE, b -> {
            b.feed(1, 2, 3, 4, 5);
            return b.burn(0x18000);
        }).refused("empty then", OUTSIDE, b -> b.end(1)).refused("state of an empty one", STATE, b -> b.burn(0x18000))
                .refused("state before outside", STATE, b -> b.burn(0)).finish("burn while on");
    }

    private static int booted(int scheduler, int slice, int limit) {
        return new GrantBoard().boot(scheduler, slice, limit, false, 0);
    }

    /** Scheduler 0 .. 2, SLICE 1 .. 1000, LIMIT 0 .. 100. */
    private static void bootBounds() {
        for (int scheduler = 0; scheduler <= 2; scheduler++) {
            Check.due("scheduler " + scheduler, booted(scheduler, 1, 0), 0);
        }
        int[] schedulers = {-1, 3, MIN, MAX};
        for (int scheduler : schedulers) {
            Check.due("scheduler " + scheduler, booted(scheduler, 1, 0), OUTSIDE);
        }
        Check.due("slice 1", booted(0, 1, 0), 0);
        Check.due("slice 1000", booted(0, 1000, 0), 0);
        int[] slices = {0, -1, 1001, MIN, MAX};
        for (int slice : slices) {
            Check.due("slice " + slice, booted(0, slice, 0), OUTSIDE);
        }
        Check.due("limit 0", booted(0, 1, 0), 0);
        Check.due("limit 100", booted(0, 1, 100), 0);
        int[] limits = {-1, 101, MIN, MAX};
        for (int limit : limits) {
            Check.due("limit " + limit, booted(0, 1, limit), OUTSIDE);
        }
        Check.due("any seed", new GrantBoard().boot(0, 1, 0, true, MIN), 0);
    }

    /** STATE, then OUTSIDE, then LOST: a boot that is refused does not spend the power cut. */
    private static void bootAnswersInOrder() {
        GrantBoard b = new GrantBoard();
        b.cut(0);
        Check.due("outside before lost", b.boot(3, 1, 0, false, 0), OUTSIDE);
        Check.due("then lost", b.boot(2, 1, 0, false, 0), LOST);
        Check.due("a lost one is off", b.count(0), 0);
        Check.due("boot", b.boot(2, 1, 0, false, 0), 0);
        b.cut(0);
        Check.due("state before outside", b.boot(3, 0, 101, false, 0), STATE);
        Check.due("state", b.boot(0, 1, 0, false, 0), STATE);
        Check.due("still on", b.count(0), 1);
    }

    private static void bootRefusedChangesNothing() {
        Twins off = new Twins(() -> {
            Rig rig = Rig.running(lampsAndText()).run(60);
            rig.board.off();
            return rig;
        });
        off.refused("scheduler", OUTSIDE, b -> b.boot(-1, 1, 0, false, 0))
                .refused("slice", OUTSIDE, b -> b.boot(0, 1001, 0, false, 0))
                .refused("limit", OUTSIDE, b -> b.boot(0, 1, 101, true, 0))
                .refused("off when off", STATE, GrantBoard::off).finish("boot outside: lamps stay on");
        Twins on = new Twins(() -> Rig.running(lampsAndText()).run(33));
        on.refused("boot when on", STATE, b -> b.boot(2, 7, 5, true, 99)).finish("boot while on");
    }

    private static void offTwice() {
        GrantBoard b = new GrantBoard();
        Check.due("at first", b.off(), STATE);
        b.boot(0, 1, 0, false, 0);
        Check.due("off", b.off(), 1);
        Check.due("again", b.off(), STATE);
    }

    /** n -1 .. 10000; a refused one leaves what was set. */
    private static void cutBounds() {
        GrantBoard b = new GrantBoard();
        int[] sound = {-1, 0, 1, 9999, 10000};
        for (int n : sound) {
            Check.due("cut " + n, b.cut(n), 1);
        }
        b.cut(1);
        int[] outside = {-2, 10001, MIN, MAX};
        for (int n : outside) {
            Check.due("cut " + n, b.cut(n), OUTSIDE);
        }
        Check.due("what was set stays", b.boot(0, 1, 0, false, 0), LOST);
        Check.due("one write was done", b.count(4), 1);
    }

    /** A boot of an empty flash has two flash writes. */
    private static void cutIsFromNowOn() {
        for (int n = 0; n <= 3; n++) {
            GrantBoard b = new GrantBoard();
            b.cut(n);
            Check.due("cut " + n, b.boot(0, 1, 0, false, 0), n < 2 ? LOST : 0);
            Check.due("writes done", b.count(4), Math.min(n, 2));
        }
        GrantBoard b = new GrantBoard();
        b.cut(0);
        b.cut(-1);
        Check.due("it stays after all", b.boot(0, 1, 0, false, 0), 0);
        b = new GrantBoard();
        b.cut(0);
        b.cut(2);
        Check.due("the later one counts", b.boot(0, 1, 0, false, 0), 0);
        b.off();
        Rig again = new Rig();
        again.board.cut(5);
        again.board.boot(0, 1, 0, false, 0);
        again.board.off();
        again.burnWords(ONE, 0);
        again.board.boot(0, 1, 0, false, 0);
        again.board.off();
        again.burnWords(ONE, 0);
        Check.due("five of six are done, over boots and burns", again.board.boot(0, 1, 0, false, 0), LOST);
        Check.due("five", again.board.count(4), 5);
        Check.due("erased, without its first word", again.word(ONE), -1);
    }

    private static App putting() {
        return App.plain(64).storeNumber(1).code(new Code().allowRead(5, 0, 0x20000, 32).label("x")
                .command(5, 2, 1, 32).j("x"));
    }

    private static void cutAtTheTenThousandth() {
        Rig rig = Rig.running(putting());
        int before = rig.board.count(4);
        rig.board.cut(10000);
        int answer = 20000;
        for (int i = 0; i < 10 && answer == 20000; i++) {
            answer = rig.board.run(20000);
        }
        Check.due("power goes", answer, LOST);
        Check.due("ten thousand were done", rig.board.count(4) - before, 10000);
    }

    /** Nothing is set for power to go any more. */
    private static void powerGoesOnce() {
        Rig rig = Rig.running(putting());
        rig.board.cut(30);
        Check.due("lost", rig.board.run(500), LOST);
        Check.due("boot", rig.board.boot(0, 1000, 0, false, 0), 1);
        Check.due("then it stays", rig.board.run(20000), 20000);
        Check.holds("flash was written", rig.board.count(4) > 5000);
    }

    private static void half(String what, Rig rig, int bank, int second) {
        Check.due(what + ": first byte", rig.board.memory(bank), 255);
        Check.due(what + ": byte 1023", rig.board.memory(bank + 1023), 255);
        Check.due(what + ": byte 1024", rig.board.memory(bank + 1024), second);
        Check.due(what + ": last byte", rig.board.memory(bank + 2047), second);
    }

    /** Of an erased bank the first 1024 bytes are 255 then. */
    private static void halfErasedAtBoot() {
        Rig rig = new Rig().burn(ONE, new byte[4096]);
        rig.board.cut(0);
        Check.due("lost", rig.board.boot(0, 1, 0, false, 0), LOST);
        half("at boot", rig, ONE, 0);
        Check.due("not done", rig.board.count(4), 0);
        Check.due("the other bank stays", rig.board.memory(TWO), 0);
        Check.due("before the store", rig.board.memory(ONE - 1), 255);
    }

    private static void halfErasedWhenCompacted() {
        for (int b = 0; b < 2; b++) {
            int counts = b == 0 ? ONE : TWO;
            int other = b == 0 ? TWO : ONE;
            Rig rig = new Rig().burn(other, new byte[2048]);
            rig.burnWords(counts, MARK | 7, 5, 5);
            rig.board.cut(0);
            Check.due("lost", rig.board.boot(0, 1, 0, false, 0), LOST);
            half("compacted", rig, other, 0);
            Check.due("the one that counts stays", rig.word(counts), MARK | 7);
            Check.due("also what is not clean", rig.word(counts + 4), 5);
        }
    }

    private static void halfErasedInARun() {
        Rig rig = Rig.with(putting());
        rig.burn(TWO, new byte[2048]);
        rig.board.boot(0, 1000, 0, false, 0);
        rig.board.cut(42 * 12);
        Check.due("lost as the bank is full", rig.board.run(2000), LOST);
        half("in a run", rig, TWO, 0);
        Check.due("the full bank stays", rig.word(ONE), MARK);
        Check.due("42 records lie there", rig.board.count(4), 2 + 42 * 12);
        Check.due("and the value", rig.board.stored(1, 1, -1), 32);
    }

    /** The board is OFF then at once, whatever was under way. */
    private static void offAtOnce() {
        App store = App.plain(64).storeNumber(1).code(new Code().subscribe(5, 0, "f", 0).command(5, 2, 1, 0).label("f")
                .spin());
        App spins = App.of(64, new Code().spin());
        Rig rig = Rig.with(store, spins);
        rig.board.boot(0, 13, 0, false, 0);
        rig.board.cut(2);
        Check.due("lost", rig.board.run(100), LOST);
        Check.due("nobody did an instruction after it", rig.board.count(10), 13);
        Check.due("nobody heard", rig.board.count(6), 0);
        Check.due("two words were put", rig.board.count(4), 4);
        Check.due("the second of them", rig.word(ONE + 8), 1);
        Check.due("the third was not", rig.word(ONE + 12), -1);
    }
}

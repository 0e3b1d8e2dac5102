import java.util.zip.CRC32;

/** Part 7: each FAIL of the drivers, buffers of size 0 or with fewer bytes by now, numbers at their bounds. */
public final class EdgesDriversTest {
    private static final int APP = Talk.APP, RAM = Talk.RAM, F = Talk.FUNCTION;
    private static final int MIN = 0x80000000, MAX = 0x7FFFFFFF;
    private static final int[] OWN = {16, 64, 0, 16, 24, 32, 16, 32, 16};

    public static void main(String[] args) {
        alarmLengths();
        alarmReferences();
        alarmNotArmed();
        alarmAnew();
        consoleWriteSizes();
        consoleWriteErrors();
        consoleWriteTicks();
        consoleWriteFewerBytes();
        consoleWriteOrder();
        consoleOutKept();
        consoleReadSizes();
        consoleReadErrors();
        consoleReadFewerBytes();
        consoleReadOver();
        consoleReadOrder();
        lampBounds();
        buttonBounds();
        buttonsHeard();
        randomSizes();
        randomGoesOn();
        samplerBounds();
        samplerPeriods();
        samplerOver();
        postBounds();
        postSizes();
        postOrder();
        postBox();
        postNames();
        postNameOfNobody();
        eightOfThem();
        sumSizes();
        oneDriverEach();
        commandZero();
        Check.finish();
    }

    private static int own(Rig rig, int process, int driver, int word) {
        return rig.word(rig.board.grant(process, driver) + OWN[driver] + 4 * word);
    }

    /** Runs until an upcall waits: how many ticks; 0 if none came. */
    private static int ticksUntilUpcall(Rig rig, int most) {
        for (int i = 1; i <= most; i++) {
            rig.board.run(1);
            if (rig.board.process(0, 9) > 0) {
                return i;
            }
        }
        return 0;
    }

    /** Whose time less reference is not below its length (without sign). */
    private static void alarmLengths() {
        int[] lengths = {0, 1, 2, 3, 50, -1, MIN, MAX};
        int[] ticks = {1, 1, 2, 3, 50, 0, 0, 0};
        for (int i = 0; i < lengths.length; i++) {
            int length = lengths[i];
            Rig rig = new Talk(256).subscribe(0, 0).command("alarm", 0, 5, length, 77, 129).go();
            int now = rig.board.count(2);
            Check.due("reference + length", rig.board.register(0, 11), now + length);
            Check.due("armed", own(rig, 0, 0, 0), 1);
            Check.due("reference", own(rig, 0, 0, 1), now);
            Check.due("length", own(rig, 0, 0, 2), length);
            Check.due("length " + length + ": ticks", ticksUntilUpcall(rig, 60), ticks[i]);
            if (ticks[i] > 0) {
                int[] up = {0, 0, now + ticks[i], now + length, 0};
                for (int k = 0; k < 5; k++) {
                    Check.due("upcall " + k, rig.board.upcall(0, 0, k), up[k]);
                }
                Check.due("not armed any more", own(rig, 0, 0, 0), 0);
                rig.run(100);
                Check.due("it comes once", rig.board.process(0, 9), 1);
            }
        }
    }

    /** References around the time of the call, and far from it: time less reference is without sign. */
    private static void alarmReferences() {
        int[] lengths = {0, 1, 2, 5, 20, -1, -2, MIN, MAX};
        int[] far = {0, -1, -20, MIN, MAX, 1000};
        for (int i = 0; i < 30 + far.length; i++) {
            int reference = i < 30 ? i : far[i - 30];
            for (int length : lengths) {
                String what = "reference " + reference + " length " + length;
                Rig rig = new Talk(256).subscribe(0, 0).command(what, 0, 6, reference, length, 129, reference + length).go();
                int want = firstTick(rig.board.count(2), reference, length);
                Check.due(what, ticksUntilUpcall(rig, 40), want);
                if (want > 0) {
                    Check.due(what + ": the time", rig.board.upcall(0, 0, 2), rig.board.count(2));
                    Check.due(what + ": when it was due", rig.board.upcall(0, 0, 3), reference + length);
                }
            }
        }
    }

    private static int firstTick(int time, int reference, int length) {
        for (int i = 1; i <= 40; i++) {
            if (Integer.compareUnsigned(time + i - reference, length) >= 0) {
                return i;
            }
        }
        return 0;
    }

    private static void alarmNotArmed() {
        new Talk(256).command("not armed", 0, 3, 0, 0, 0, 3).command("armed", 0, 5, 1000, 0, 129)
                .command("no more", 0, 3, 0, 0, 128).command("no more again", 0, 3, 0, 0, 0, 3)
                .command("armed for the next tick", 0, 5, 0, 0, 129).command("it came", 0, 3, 0, 0, 0, 3)
                .then(rig -> Check.due("reference and length stay", own(rig, 0, 0, 1) > 0 ? 1 : 0, 1)).go();
        new Talk(256).command("frequency", 0, 1, 5, 6, 129, 1000, 5, 6)
                .command("time", 0, 2, 5, 6, 129, null, 5, 6)
                .then(rig -> Check.due("the time", rig.board.register(0, 11), rig.board.count(2))).go();
    }

    private static void alarmAnew() {
        Rig rig = new Talk(256).subscribe(0, 0).command("first", 0, 5, 20, 0, 129).command("second", 0, 5, 40, 0, 129).go();
        Check.due("the second counts", ticksUntilUpcall(rig, 60), 40);
        rig.run(50);
        Check.due("just one", rig.board.process(0, 9), 1);
    }

    /** V bytes, or as many as buffer 1 for reading has, if it has fewer; FAIL 7 for 0 bytes. */
    private static void consoleWriteSizes() {
        int[] asked = {1, 4, 5, 6, 100, -1, MIN, MAX};
        for (int v : asked) {
            Rig rig = new Talk(256).allowRead(1, 1, RAM, 5).command("write " + v, 1, 1, v, 9, 128).go();
            int want = v >= 0 && v < 5 ? v : 5;
            Check.due("writes", own(rig, 0, 1, 0), want);
            Check.due("has written", own(rig, 0, 1, 1), 0);
            rig.run(100);
            Check.due("put out", rig.board.count(3), want);
            Check.due("done", own(rig, 0, 1, 0), 0);
        }
        Rig one = new Talk(256).allowRead(1, 1, RAM, 1).command("one byte", 1, 1, 9, 0, 128).go().run(20);
        Check.due("one", one.board.count(3), 1);
    }

    private static void consoleWriteErrors() {
        new Talk(256).command("no buffer", 1, 1, 5, 0, 0, 7).allowRead(1, 0, RAM, 5)
                .command("buffer 0 is not it", 1, 1, 5, 0, 0, 7).allowWrite(1, 1, RAM, 5)
                .command("nor the one for writing", 1, 1, 5, 0, 0, 7).allowRead(1, 1, RAM, 5)
                .command("0 bytes", 1, 1, 0, 0, 0, 7).allowRead(1, 1, RAM, 0)
                .command("size 0", 1, 1, 5, 0, 0, 7).allowRead(1, 1, RAM, 200).command("OK", 1, 1, 200, 0, 128)
                .command("under way", 1, 1, 1, 0, 0, 2).command("2 before 7", 1, 1, 0, 0, 0, 2)
                .then(rig -> Check.due("as it was", own(rig, 0, 1, 0), 200))
                .command("a read may be besides", 1, 2, 3, 0, 128).go();
    }

    /** In each tick whose time is a multiple of 8; it is done when all are put out (in that tick). */
    private static void consoleWriteTicks() {
        Rig rig = new Talk(256).subscribe(1, 1).allowRead(1, 1, APP, 3).command("write", 1, 1, 3, 0, 128).go();
        int[] seen = new int[3];
        int n = 0;
        for (int i = 0; i < 40; i++) {
            rig.run(1);
            if (rig.board.count(3) > n && n < 3) {
                seen[n] = rig.board.count(2);
                n++;
                Check.due("done with the last", rig.board.process(0, 9), n == 3 ? 1 : 0);
            }
        }
        for (int i = 0; i < 3; i++) {
            Check.due("a multiple of 8", seen[i] % 8, 0);
            Check.due("each 8", seen[i], seen[0] + 8 * i);
            Check.due("byte " + i, rig.board.out(i), rig.board.memory(APP + i));
        }
        int[] up = {1, 1, 3, 0, 0};
        for (int k = 0; k < 5; k++) {
            Check.due("upcall " + k, rig.board.upcall(0, 0, k), up[k]);
        }
    }

    /** If the buffer has not that many bytes by now, none, and it is done. */
    private static void consoleWriteFewerBytes() {
        for (int size = 0; size <= 5; size++) {
            int n = size;
            Rig rig = new Talk(256).subscribe(1, 1).allowRead(1, 1, RAM, 4).command("write", 1, 1, 4, 0, 128)
                    .then(r -> Check.due("before the first byte", r.board.count(3), 0))
                    .then(r -> untilOut(r, 2)).ask("another buffer", 4, 1, 1, RAM + 16, n, 130, RAM, 4).go();
            int before = rig.board.count(3);
            Check.due("two bytes as yet", before, 2);
            rig.run(8);
            Check.due("size " + size + ": the third", rig.board.count(3), size > 2 ? 3 : 2);
            rig.run(8);
            Check.due("size " + size + ": the fourth", rig.board.count(3), size > 3 ? 4 : size > 2 ? 3 : 2);
            Check.due("size " + size + ": done", own(rig, 0, 1, 0), 0);
            Check.due("both words 0", own(rig, 0, 1, 1), 0);
            Check.due("how many", rig.board.upcall(0, 0, 2), size > 3 ? 4 : size > 2 ? 3 : 2);
            Check.due("nothing behind", rig.board.upcall(0, 0, 3), 0);
        }
    }

    /** The process stands still meanwhile. */
    private static void untilOut(Rig rig, int n) {
        rig.board.hold(0, true);
        for (int i = 0; i < 100 && rig.board.count(3) < n; i++) {
            rig.board.run(1);
        }
        rig.board.hold(0, false);
    }

    private static App writer(int nops, String s) {
        Code c = new Code();
        for (int i = 0; i < nops; i++) {
            c.nop();
        }
        return App.of(64, c.allowReadLabel(1, 1, "t", s.length()).command(1, 1, 99, 0).spin().label("t").text(s));
    }

    private static String text(Rig rig) {
        StringBuilder s = new StringBuilder();
        for (int i = 0; rig.board.out(i) >= 0; i++) {
            s.append((char) rig.board.out(i));
        }
        return s.toString();
    }

    /** Of writes under way the one that was asked first is at work. */
    private static void consoleWriteOrder() {
        Rig rig = Rig.with(writer(2, "aa"), writer(1, "bb"), writer(0, "cc"));
        rig.board.boot(0, 1, 0, false, 0);
        rig.run(200);
        Check.holds("ccbbaa: " + text(rig), text(rig).equals("ccbbaa"));
        rig = Rig.with(writer(0, "aa"), writer(0, "bb"), writer(0, "cc"));
        rig.board.boot(0, 1, 0, false, 0);
        rig.run(200);
        Check.holds("aabbcc: " + text(rig), text(rig).equals("aabbcc"));
        rig = Rig.with(writer(0, "aaaa"), writer(0, "bb"));
        rig.board.boot(1, 1, 0, false, 0);
        rig.board.hold(0, true);
        rig.run(20);
        rig.board.hold(0, false);
        rig.run(100);
        Check.holds("the lesser number asked later: " + text(rig), text(rig).equals("bbaaaa"));
    }

    /** The first 4000 are kept. */
    private static void consoleOutKept() {
        Rig rig = Rig.running(5000, new Code().li(5, RAM + 3999).li(6, 7).sb(5, 6, 0).sb(5, 6, 1)
                .allowRead(1, 1, RAM, 4002).command(1, 1, 4002, 0).spin());
        rig.run(20000);
        for (int i = 0; i < 2000 && rig.board.count(3) < 3999; i++) {
            rig.run(8);
        }
        Check.due("3999", rig.board.count(3), 3999);
        Check.due("the last", rig.board.out(3998), 0);
        Check.due("one more", rig.board.out(3999), GrantBoard.NONE);
        rig.run(16000);
        Check.due("4002 put out", rig.board.count(3), 4002);
        Check.due("the 4000th is kept", rig.board.out(3999), 7);
        Check.due("the 4001st is not", rig.board.out(4000), GrantBoard.NONE);
        Check.due("nor the 4002nd", rig.board.out(4001), GrantBoard.NONE);
    }

    private static void consoleReadSizes() {
        int[] asked = {1, 4, 5, 6, 100, -1, MIN, MAX};
        for (int v : asked) {
            int want = v >= 0 && v < 5 ? v : 5;
            Rig rig = new Talk(256).subscribe(1, 2).allowWrite(1, 1, RAM + 8, 5).command("read " + v, 1, 2, v, 9, 128).go();
            Check.due("reads", own(rig, 0, 1, 2), want);
            for (int i = 0; i < want; i++) {
                Check.due("none as yet", rig.board.process(0, 9), 0);
                Check.due("has read", own(rig, 0, 1, 3), i);
                Check.due("byte " + i, rig.board.type(200 + i), 1);
                Check.due("there", rig.board.memory(RAM + 8 + i), 200 + i);
            }
            Check.due("done", rig.board.process(0, 9), 1);
            int[] up = {1, 2, 0, want, 0};
            for (int k = 0; k < 5; k++) {
                Check.due("upcall " + k, rig.board.upcall(0, 0, k), up[k]);
            }
            Check.due("both words 0", own(rig, 0, 1, 2) | own(rig, 0, 1, 3), 0);
            Check.due("one more is lost", rig.board.type(1), 0);
            Check.due("nothing behind", rig.board.memory(RAM + 8 + want), 0);
        }
    }

    private static void consoleReadErrors() {
        new Talk(256).command("no buffer", 1, 2, 5, 0, 0, 7).allowWrite(1, 0, RAM, 5)
                .command("buffer 0 is not it", 1, 2, 5, 0, 0, 7).allowRead(1, 1, RAM, 5)
                .command("nor the one for reading", 1, 2, 5, 0, 0, 7).allowWrite(1, 1, RAM, 5)
                .command("0 bytes", 1, 2, 0, 0, 0, 7).allowWrite(1, 1, RAM, 0)
                .command("size 0", 1, 2, 5, 0, 0, 7).allowWrite(1, 1, RAM, 5).command("OK", 1, 2, 5, 0, 128)
                .command("under way", 1, 2, 1, 0, 0, 2).command("2 before 7", 1, 2, 0, 0, 0, 2)
                .then(rig -> Check.due("as it was", own(rig, 0, 1, 2), 5))
                .command("a write may be besides", 1, 1, 3, 0, 128).go();
    }

    /** If the buffer has not that many bytes by now, it is lost, and the read is done. */
    private static void consoleReadFewerBytes() {
        for (int size = 0; size <= 5; size++) {
            int n = size;
            Rig rig = new Talk(256).subscribe(1, 2).allowWrite(1, 1, RAM, 4).command("read", 1, 2, 4, 0, 128)
                    .then(r -> Check.due("came", r.board.type(11), 1)).then(r -> Check.due("came", r.board.type(12), 1))
                    .ask("another buffer", 3, 1, 1, RAM + 16, n, 130, RAM, 4).go();
            int came = 2;
            while (came < 4) {
                boolean fits = came < size;
                Check.due("size " + size + ": typed", rig.board.type(20 + came), fits ? 1 : 0);
                if (!fits) {
                    break;
                }
                Check.due("behind those before", rig.board.memory(RAM + 16 + came), 20 + came);
                came++;
            }
            Check.due("done", rig.board.process(0, 9), 1);
            Check.due("0", rig.board.upcall(0, 0, 2), 0);
            Check.due("how many came", rig.board.upcall(0, 0, 3), came);
            Check.due("both words 0", own(rig, 0, 1, 2) | own(rig, 0, 1, 3), 0);
            Check.due("then lost", rig.board.type(1), 0);
        }
    }

    private static void consoleReadOver() {
        for (int typed = 0; typed <= 2; typed++) {
            int n = typed;
            new Talk(256).subscribe(1, 2).allowWrite(1, 1, RAM, 3).command("without one", 1, 3, 0, 0, 0, 3)
                    .command("read", 1, 2, 3, 0, 128)
                    .then(rig -> {
                        for (int i = 0; i < n; i++) {
                            rig.board.type(5);
                        }
                    })
                    .command("over", 1, 3, 0, 0, 128).lastUpcall("cancelled", 1, 2, 8, n, 0)
                    .command("again", 1, 3, 0, 0, 0, 3).waiting("one", 1)
                    .then(rig -> Check.due("lost", rig.board.type(5), 0))
                    .command("a new one", 1, 2, 3, 0, 128).go();
        }
        new Talk(256).allowRead(1, 1, RAM, 3).command("write", 1, 1, 3, 0, 128).command("a write is no read", 1, 3, 0, 0, 0, 3)
                .go();
    }

    private static void consoleReadOrder() {
        App[] apps = new App[3];
        for (int i = 0; i < 3; i++) {
            Code c = new Code();
            for (int k = 0; k < 3 * (2 - i); k++) {
                c.nop();
            }
            apps[i] = App.of(64, c.allowWrite(1, 1, RAM + 1024 * i, 1).command(1, 2, 1, 0).spin());
        }
        Rig rig = Rig.with(apps);
        rig.board.boot(0, 1, 0, false, 0);
        rig.run(100);
        for (int i = 2; i >= 0; i--) {
            Check.due("typed", rig.board.type(40 + i), 1);
            Check.due("to the one that asked first", rig.board.memory(RAM + 1024 * i), 40 + i);
        }
        Check.due("no read is left", rig.board.type(1), 0);
    }

    private static void lampBounds() {
        int[] none = {-1, 4, MIN, MAX, 32};
        for (int v : none) {
            Talk talk = new Talk(256).command("on 1", 2, 1, 1, 0, 128);
            for (int c = 1; c <= 3; c++) {
                talk.command("command " + c + " of lamp " + v, 2, c, v, 0, 0, 6);
            }
            Rig rig = talk.go();
            for (int k = 0; k < 4; k++) {
                Check.due("lamp " + k, rig.board.lamp(k), k == 1 ? 1 : 0);
            }
        }
        for (int k = 0; k < 4; k++) {
            int lamp = k;
            new Talk(256).command("on", 2, 1, k, 0, 128).then(r -> Check.due("on", r.board.lamp(lamp), 1))
                    .command("on again", 2, 1, k, 0, 128).then(r -> Check.due("on", r.board.lamp(lamp), 1))
                    .command("off", 2, 2, k, 0, 128).then(r -> Check.due("off", r.board.lamp(lamp), 0))
                    .command("off again", 2, 2, k, 0, 128).then(r -> Check.due("off", r.board.lamp(lamp), 0))
                    .command("the other way", 2, 3, k, 0, 128).then(r -> Check.due("on", r.board.lamp(lamp), 1))
                    .command("and back", 2, 3, k, 0, 128).then(r -> Check.due("off", r.board.lamp(lamp), 0)).go();
        }
    }

    private static void buttonBounds() {
        int[] none = {-1, 4, MIN, MAX, 32};
        for (int v : none) {
            Talk talk = new Talk(256).command("hears 1", 3, 1, 1, 0, 128);
            for (int c = 1; c <= 3; c++) {
                talk.command("command " + c + " of button " + v, 3, c, v, 0, 0, 6);
            }
            Check.due("hears as before", own(talk.go(), 0, 3, 0), 2);
        }
        for (int k = 0; k < 4; k++) {
            int button = k;
            new Talk(256).command("hears", 3, 1, k, 0, 128).command("again", 3, 1, k, 0, 128)
                    .then(r -> Check.due("bit", own(r, 0, 3, 0), 1 << button)).command("up", 3, 3, k, 0, 129, 0)
                    .then(r -> r.board.press(button, true)).command("down", 3, 3, k, 0, 129, 1)
                    .command("no more", 3, 2, k, 0, 128).command("no more again", 3, 2, k, 0, 128)
                    .then(r -> Check.due("bit", own(r, 0, 3, 0), 0)).go();
        }
    }

    private static void buttonsHeard() {
        for (int k = 0; k < 4; k++) {
            int button = k;
            new Talk(256).subscribe(3, 0).command("hears", 3, 1, k, 0, 128)
                    .then(r -> Check.due("up already", r.board.press(button, false), 0)).waiting("none", 0)
                    .then(r -> Check.due("down", r.board.press(button, true), 1)).waiting("one", 1)
                    .lastUpcall("down", 3, 0, k, 1, 0)
                    .then(r -> Check.due("down already", r.board.press(button, true), 0)).waiting("one", 1)
                    .then(r -> Check.due("up", r.board.press(button, false), 1)).lastUpcall("up", 3, 0, k, 0, 0)
                    .then(r -> Check.due("another", r.board.press(button ^ 1, true), 1)).waiting("two", 2).go();
        }
    }

    private static int[] drawn(int seed, int n) {
        int[] all = new int[n];
        int z = seed;
        for (int i = 0; i < n; i++) {
            z = z * 1664525 + 1013904223;
            all[i] = z >>> 24;
        }
        return all;
    }

    private static void randomSizes() {
        int[] asked = {0, 1, 4, 5, 6, -1, MIN, MAX};
        for (int v : asked) {
            int want = v >= 0 && v < 5 ? v : 5;
            Talk talk = new Talk(256).subscribe(4, 0).allowWrite(4, 0, RAM + 8, 5).command("random", 4, 1, v, 0, 128)
                    .lastUpcall("random " + v, 4, 0, 0, want, 0);
            Rig rig = talk.go();
            int[] b = drawn(0, 5);
            for (int i = 0; i < 6; i++) {
                Check.due("byte " + i, rig.board.memory(RAM + 8 + i), i < want ? b[i] : 0);
            }
        }
        new Talk(256).subscribe(4, 0).command("no buffer", 4, 1, 9, 0, 128).lastUpcall("no buffer", 4, 0, 0, 0, 0)
                .allowWrite(4, 0, -1, 0).command("size 0", 4, 1, 9, 0, 128).lastUpcall("size 0", 4, 0, 0, 0, 0)
                .allowWrite(4, 0, RAM, 1).command("nothing was drawn by them", 4, 1, 9, 0, 128)
                .then(rig -> Check.due("the first", rig.board.memory(RAM), drawn(0, 1)[0])).go();
    }

    /** z is the SEED as the board is booted, and goes on. */
    private static void randomGoesOn() {
        int[] seeds = {0, 1, -1, MIN, 12345};
        for (int seed : seeds) {
            Talk talk = new Talk(256).allowWrite(4, 0, RAM, 2).command("two", 4, 1, 2, 0, 128)
                    .then(rig -> Check.due("second", rig.board.memory(RAM + 1), drawn(seed, 9)[1]))
                    .command("one", 4, 1, 1, 0, 128)
                    .then(rig -> Check.due("third", rig.board.memory(RAM), drawn(seed, 9)[2]))
                    .then(rig -> Check.due("as it was", rig.board.memory(RAM + 1), drawn(seed, 9)[1]));
            Rig rig = Rig.with(talk.app());
            rig.board.boot(0, 1000, 0, false, seed);
            talk.play(rig);
            rig.board.off();
            rig.board.boot(0, 1000, 0, false, seed);
            rig.run(20);
            Check.due("the seed anew", rig.board.memory(RAM + 1), drawn(seed, 9)[1]);
        }
    }

    /** Channels 0, 1; W 1 .. 100000. */
    private static void samplerBounds() {
        int[] none = {-1, 2, MIN, MAX};
        for (int v : none) {
            new Talk(256).subscribe(6, 0).command("channel " + v, 6, 1, v, 0, 0, 6)
                    .command("channel " + v, 6, 2, v, 5, 0, 6).waiting("none", 0)
                    .then(rig -> Check.due("samples none", own(rig, 0, 6, 0), 0)).go();
        }
        int[] periods = {0, 100001, -1, MIN, MAX};
        for (int w : periods) {
            new Talk(256).command("period " + w, 6, 2, 0, w, 0, 6).command("both wrong", 6, 2, 2, w, 0, 6)
                    .command("sound", 6, 2, 0, 100000, 128).command("6 before 2", 6, 2, 0, w, 0, 6)
                    .command("2", 6, 2, 1, 1, 0, 2).command("a period counts for nothing with 1", 6, 1, 1, w, 128)
                    .then(rig -> Check.due("as it was", own(rig, 0, 6, 1), 100000)).go();
        }
        for (int v = 0; v < 2; v++) {
            int channel = v;
            new Talk(256).subscribe(6, 0).then(rig -> rig.board.level(channel, MIN + 7))
                    .command("sample", 6, 1, v, 0, 128).lastUpcall("sample", 6, 0, v, MIN + 7, 1)
                    .then(rig -> rig.board.level(1 - channel, 5)).command("the other", 6, 1, 1 - v, 0, 128)
                    .lastUpcall("the other", 6, 0, 1 - v, 5, 1).go();
        }
    }

    private static void samplerPeriods() {
        int[] periods = {1, 2, 7, 100000};
        for (int w : periods) {
            Rig rig = new Talk(256).subscribe(6, 0).command("samples", 6, 2, 1, w, 128).go();
            int now = rig.board.count(2);
            Check.due("own words", own(rig, 0, 6, 0), 2);
            Check.due("period", own(rig, 0, 6, 1), w);
            Check.due("due", own(rig, 0, 6, 2), now + w);
            rig.board.level(1, 9);
            int left = w - 1;
            while (left > 0) {
                int n = Math.min(left, 20000);
                rig.run(n);
                left -= n;
            }
            Check.due("period " + w + ": not yet", rig.board.process(0, 9), 0);
            rig.run(1);
            Check.due("period " + w + ": now", rig.board.process(0, 9), 1);
            int[] up = {6, 0, 1, 9, 0};
            for (int k = 0; k < 5; k++) {
                Check.due("upcall " + k, rig.board.upcall(0, 0, k), up[k]);
            }
            Check.due("due again", own(rig, 0, 6, 2), now + 2 * w);
            if (w < 10) {
                rig.run(w);
                Check.due("period " + w + ": again", rig.board.process(0, 9), 2);
            }
        }
    }

    private static void samplerOver() {
        new Talk(256).subscribe(6, 0).command("samples none", 6, 3, 9, 9, 0, 3).command("samples", 6, 2, 0, 30, 128)
                .command("no more", 6, 3, 9, 9, 128).command("no more again", 6, 3, 0, 0, 0, 3)
                .then(rig -> rig.run(100)).waiting("none came", 0)
                .then(rig -> Check.due("samples none", own(rig, 0, 6, 0), 0)).go();
        new Talk(256).command("samples", 6, 2, 0, 30, 128).command("no more", 6, 3, 0, 0, 128)
                .command("another", 6, 2, 1, 40, 128).then(rig -> Check.due("it", own(rig, 0, 6, 0), 2)).go();
    }

    /** Process 1 with a box of some bytes; it has asked before process 0 does. */
    private static App boxed(int size) {
        return App.plain(256).name("box").code(new Code().allowWrite(7, 0, RAM + 1024, size).subscribe(7, 0, "f", 3)
                .label("x").yieldWait().j("x").label("f").mv(20, Code.A0).mv(21, Code.A1).mv(22, Code.A2).ret());
    }

    private static Rig withBox(Talk talk, App box) {
        Rig rig = Rig.with(talk.app(), box);
        Check.due("two", rig.board.boot(1, 1, 0, false, 0), 2);
        rig.board.hold(0, true);
        rig.run(60);
        rig.board.hold(0, false);
        return talk.play(rig);
    }

    private static void postBounds() {
        int[] none = {2, 3, -1, MIN, MAX};
        for (int v : none) {
            withBox(new Talk(256).allowWrite(7, 0, RAM, 4).command("to " + v, 7, 1, v, 4, 0, 11), boxed(8));
        }
        withBox(new Talk(256).command("to 1", 7, 1, 1, 0, 129, 0), boxed(8));
        withBox(new Talk(256).allowWrite(7, 0, RAM, 4).command("itself", 7, 1, 0, 4, 0, 6), boxed(8));
        withBox(new Talk(256).command("itself without a buffer: 11 before 6", 7, 1, 0, 4, 0, 11), boxed(8));
        App[] deaf = {App.of(64, new Code().yieldWait()), App.of(64, new Code().exit(0, 0)), App.of(64, new Code().ebreak()),
            App.of(64, new Code().allowWrite(7, 0, RAM + 1024, 4).exit(0, 0)),
            App.of(64, new Code().allowWrite(7, 0, RAM + 1024, 4).ebreak()),
            App.of(64, new Code().allowWrite(7, 0, RAM + 1024, 0).yieldWait()),
            App.of(64, new Code().allowRead(7, 0, RAM + 1024, 4).yieldWait()),
            App.of(64, new Code().command(7, 2, 0, 0).yieldWait()),
            App.of(64, new Code().allowWrite(7, 0, RAM + 1024, 4).allowWrite(7, 0, 0, 0).yieldWait())};
        for (App app : deaf) {
            Rig rig = withBox(new Talk(256).allowRead(7, 0, RAM, 4).command("to one that cannot", 7, 1, 1, 4, 0, 11), app);
            Check.due("no upcall", rig.board.count(6), 0);
        }
        App able = App.of(64, new Code().allowWrite(7, 0, RAM + 1024, 1).spin());
        Rig rig = withBox(new Talk(256).command("to one without a function", 7, 1, 1, 4, 129, 0), able);
        Check.due("its box is full", own(rig, 1, 7, 0), 1);
    }

    /** W bytes, or as many as buffer 0 for reading has; as many as it has place for. */
    private static void postSizes() {
        int[] asked = {0, 1, 3, 4, 5, 6, 7, -1, MIN, MAX};
        int[] sizes = {1, 3, 5, 8};
        for (int w : asked) {
            for (int place : sizes) {
                int n = Math.min(w >= 0 && w < 5 ? w : 5, place);
                Talk talk = new Talk(256).allowRead(7, 0, APP + 8, 5).command("send " + w + " to " + place, 7, 1, 1, w, 129, n);
                Rig rig = withBox(talk, boxed(place));
                for (int i = 0; i < 8; i++) {
                    Check.due("byte " + i, rig.board.memory(RAM + 1024 + i), i < n ? rig.board.memory(APP + 8 + i) : 0);
                }
                Check.due("full", own(rig, 1, 7, 0), 1);
                rig.board.hold(0, true);
                rig.run(10);
                Check.due("the sender", rig.board.register(1, 20), 0);
                Check.due("how many", rig.board.register(1, 21), n);
                Check.due("0", rig.board.register(1, 22), 0);
            }
        }
    }

    private static void postOrder() {
        withBox(new Talk(256).command("first", 7, 1, 1, 0, 129, 0).command("full", 7, 1, 1, 0, 0, 2)
                .command("full again", 7, 1, 1, 9, 0, 2), boxed(8));
        Talk self = new Talk(256).allowWrite(7, 0, RAM, 8);
        App sends = App.of(64, new Code().command(7, 1, 0, 0).yieldWait());
        Rig rig = withBox(self.then(r -> {
            r.board.hold(0, true);
            r.board.restart(1);
            r.run(20);
            r.board.hold(0, false);
        }).command("itself, full: 6 before 2", 7, 1, 0, 0, 0, 6).command("empty it", 7, 2, 0, 0, 128), sends);
        Check.due("two", rig.board.count(1), 2);
    }

    private static void postBox() {
        new Talk(256).command("empty at first", 7, 2, 5, 5, 0, 3).go();
        App sends = App.of(64, new Code().command(7, 1, 0, 0).yieldWait());
        Talk talk = new Talk(256).subscribe(7, 0).allowWrite(7, 0, RAM, 8).then(rig -> {
            rig.board.hold(0, true);
            rig.board.restart(1);
            rig.run(20);
            rig.board.hold(0, false);
            Check.due("full", own(rig, 0, 7, 0), 1);
        }).lastUpcall("it came", 7, 0, 1, 0, 0).command("empty it", 7, 2, 0, 0, 128)
                .then(rig -> Check.due("empty", own(rig, 0, 7, 0), 0)).command("it was", 7, 2, 0, 0, 0, 3);
        withBox(talk, sends);
    }

    /** V is not 1 .. 16, or beyond the buffer: 7; none: 11. */
    private static void postNames() {
        String sixteen = "sixteen bytes ok";
        App other = App.plain(64).name(sixteen).code(new Code().spin());
        App one = App.plain(64).name("s").code(new Code().spin());
        App again = App.plain(64).name("sixteen bytes").code(new Code().spin());
        Talk talk = new Talk(256, App.plain(256).name("none"));
        talk.code(c -> c.j("past").label("names").text(sixteen + "tail").label("past"));
        int names = talk.here() - 20;
        talk.allowRead(7, 0, names, 20);
        int[] wrong = {0, 17, 20, 21, -1, MIN, MAX};
        for (int v : wrong) {
            talk.command("V " + v, 7, 3, v, 0, 0, 7);
        }
        talk.command("16", 7, 3, 16, 0, 129, 1).command("1", 7, 3, 1, 0, 129, 2).command("13", 7, 3, 13, 0, 129, 3)
                .command("15 is nobody's", 7, 3, 15, 0, 0, 11).command("2 is nobody's", 7, 3, 2, 0, 0, 11)
                .allowRead(7, 0, names, 13).command("13 of 13", 7, 3, 13, 0, 129, 3).command("14 of 13", 7, 3, 14, 0, 0, 7)
                .command("16 of 13", 7, 3, 16, 0, 0, 7).allowRead(7, 0, names, 0).command("1 of 0", 7, 3, 1, 0, 0, 7);
        Rig rig = Rig.with(talk.app(), other, one, again);
        rig.board.boot(1, 1, 0, false, 0);
        talk.play(rig);
    }

    private static void postNameOfNobody() {
        App large = App.plain(15873).name("none").code(new Code().spin());
        Talk talk = new Talk(256);
        talk.code(c -> c.j("past").label("names").text("none").label("past"));
        int names = talk.here() - 4;
        talk.allowRead(7, 0, names, 4).command("an app that is not loaded", 7, 3, 4, 0, 0, 11);
        Rig rig = Rig.with(talk.app(), large);
        Check.due("one process", rig.board.boot(1, 1, 0, false, 0), 1);
        talk.play(rig);
    }

    /** With as many processes as there may be, the world still reaches each of them, and no further. */
    private static void eightOfThem() {
        App[] apps = new App[8];
        for (int i = 0; i < 8; i++) {
            int base = RAM + 1024 * i;
            apps[i] = App.plain(64).name("app" + i).code(new Code().subscribe(3, 0, "f", 0).command(3, 1, 2, 0)
                    .allowWrite(1, 1, base, 1).command(1, 2, 1, 0).allowReadLabel(7, 0, "t", 4).command(7, 3, 4, 0).label("f")
                    .spin().label("t").text(i == 0 ? "app7" : "appx"));
        }
        Rig rig = Rig.with(apps);
        Check.due("eight", rig.board.boot(1, 1, 0, false, 0), 8);
        for (int i = 0; i < 8; i++) {
            rig.run(60);
            Check.due("by name", rig.board.register(i, 11), i == 0 ? 7 : 11);
            rig.board.hold(i, true);
        }
        rig.board.press(2, true);
        for (int i = 0; i < 8; i++) {
            Check.due("heard by " + i, rig.board.process(i, 9), 1);
            Check.due("typed", rig.board.type(50 + i), 1);
            Check.due("read by " + i, rig.board.memory(RAM + 1024 * i), 50 + i);
        }
        Check.due("no read is left", rig.board.type(1), 0);
    }

    private static int crc(Rig rig, int address, int n) {
        CRC32 c = new CRC32();
        for (int i = 0; i < n; i++) {
            c.update(rig.board.memory(address + i));
        }
        return (int) c.getValue();
    }

    private static void sumSizes() {
        int[] asked = {0, 1, 4, 5, 6, -1, MIN, MAX};
        for (int v : asked) {
            int n = v >= 0 && v < 5 ? v : 5;
            Rig rig = new Talk(256).allowRead(8, 0, APP + 3, 5).command("sum of " + v, 8, 1, v, 9, 129).go();
            Check.due("crc of " + v, rig.board.register(0, 11), crc(rig, APP + 3, n));
        }
        new Talk(256).command("no buffer", 8, 1, 9, 0, 129, 0).allowRead(8, 0, -1, 0).command("size 0", 8, 1, 9, 0, 129, 0)
                .go();
        Rig all = new Talk(256).allowRead(8, 0, APP, 0x2000).command("all of the app", 8, 1, -1, 0, 129).go();
        Check.due("crc of all", all.board.register(0, 11), crc(all, APP, 0x2000));
    }

    /** A command is its driver's alone: no other driver's upcall comes, no other's words or lamps change. */
    private static void oneDriverEach() {
        int[][] commands = {{0, 1}, {0, 2}, {0, 5}, {1, 1}, {1, 2}, {2, 1}, {2, 2}, {2, 3}, {3, 1}, {3, 2}, {3, 3}, {4, 1},
            {5, 1}, {5, 2}, {5, 3}, {6, 1}, {6, 2}, {7, 3}, {8, 1}};
        for (int[] c : commands) {
            Talk talk = new Talk(256, App.plain(256).storeNumber(1).name("a")).ask("of alarm", 1, 0, 0, F, 0, 130);
            for (int driver : new int[] {3, 4, 5, 6, 7}) {
                talk.subscribe(driver, 0);
            }
            talk.subscribe(1, 1).subscribe(1, 2).allowRead(8, 0, RAM, 1).allowRead(1, 1, RAM, 1).allowWrite(1, 1, RAM, 1)
                    .allowRead(5, 0, RAM, 1);
            talk.command("command " + c[1] + " of " + c[0], c[0], c[1], 1, 1);
            boolean sends = c[0] == 4 || c[0] == 5 || c[0] == 6 && c[1] == 1;
            Rig rig = talk.waiting("command " + c[1] + " of " + c[0], sends ? 1 : 0).go();
            if (sends) {
                Check.due("its own", rig.board.upcall(0, 0, 0), c[0]);
            }
            Check.due("lamp", rig.board.lamp(1), c[0] == 2 && c[1] != 2 ? 1 : 0);
            Check.due("flash writes", rig.board.count(4), c[0] == 5 && c[1] == 2 ? 2 + 5 : 2);
            int[][] own = {{0, 0}, {1, 0}, {1, 2}, {3, 0}, {6, 0}, {7, 0}};
            int[] maker = {5, 1, 2, 1, 2, -1};
            for (int i = 0; i < own.length; i++) {
                boolean its = own[i][0] == c[0] && maker[i] == c[1];
                Check.due("own word of " + own[i][0], own(rig, 0, own[i][0], own[i][1]) != 0 ? 1 : 0, its ? 1 : 0);
            }
        }
    }

    private static void commandZero() {
        int[] tell = {0, 0, 4, 4, 0, 0, 2, 0, 0};
        for (int d = 0; d < 9; d++) {
            Rig rig = new Talk(256).command("0 of " + d, d, 0, 7, 8, tell[d] == 0 ? 128 : 129, tell[d], 7, 8).go();
            Check.due("no grant", rig.board.process(0, 10), 0);
        }
    }
}

import java.util.zip.CRC32;

/** Part 7: the drivers but the store. */
public final class DriversTest {
    private static final int RAM = 0x20000;
    private static final int CONTROL = RAM + 1024 - 64;

    public static void main(String[] args) {
        alarm();
        alarmEdges();
        alarmsByProcesses();
        consoleWrite();
        consoleWriteErrors();
        consoleWriteCutShort();
        consoleWritersInTurn();
        consoleRead();
        consoleReadCutShort();
        consoleReadAborted();
        consoleReadersInTurn();
        outIsKept();
        lamps();
        buttons();
        buttonsByProcesses();
        random();
        sampler();
        samplerErrors();
        post();
        postErrors();
        postNames();
        sums();
        Check.finish();
    }

    private static Rig ran(Code c, int n) {
        return Rig.running(256, c.spin()).run(n);
    }

    private static int own(Rig rig, int process, int driver, int word) {
        int[] pairs = {2, 8, 0, 2, 2, 3, 2, 4, 2};
        return rig.word(rig.board.grant(process, driver) + 8 * pairs[driver] + 4 * word);
    }

    private static void alarm() {
        Code c = new Code().command(0, 1, 0, 0).keep(RAM).command(0, 2, 0, 0).keep(RAM + 16).command(0, 3, 0, 0)
                .keep(RAM + 32).command(0, 5, 100, 9).keep(RAM + 48).command(0, 3, 0, 0).keep(RAM + 64)
                .command(0, 3, 0, 0).keep(RAM + 80);
        Rig rig = ran(c, 100);
        rig.kept("1", RAM, 129, 1000, 0, 0);
        rig.kept("2", RAM + 16, 129, 18);
        rig.kept("3 when not armed", RAM + 32, 0, 3);
        rig.kept("5", RAM + 48, 129, 142, 100, 9);
        rig.kept("3", RAM + 64, 128);
        rig.kept("3 again", RAM + 80, 0, 3);
        Check.due("not armed", own(rig, 0, 0, 0), 0);
        Check.due("reference", own(rig, 0, 0, 1), 42);
        Check.due("length", own(rig, 0, 0, 2), 100);

        c = new Code().subscribe(0, 0, "f", 7).command(0, 5, 50, 0).yieldWait().spin().label("f").keep(RAM).spin();
        rig = Rig.running(256, c).run(62);
        rig.state("before", 0, 2);
        Check.due("armed", own(rig, 0, 0, 0), 1);
        rig.run(1);
        rig.state("at its time", 0, 1);
        Check.due("not armed any more", own(rig, 0, 0, 0), 0);
        rig.run(10);
        rig.kept("the upcall", RAM, 63, 63, 0, 7);
        rig.event("run", 0, 0, 1, 0);
        Check.due("its time", rig.board.event(0, 0), 63);
    }

    private static void alarmEdges() {
        Code c = new Code().subscribe(0, 0, "f", 0).command(0, 6, -10, 50).keep(RAM).yieldWait().spin().label("f")
                .keep(RAM + 16).spin();
        Rig rig = Rig.running(256, c).run(60);
        rig.kept("6", RAM, 129, 40, -10, 50);
        rig.kept("upcall", RAM + 16, 40, 40, 0);
        c = new Code().subscribe(0, 0, "f", 0).command(0, 6, 5, -1).keep(RAM).yieldWait().spin().label("f").spin();
        rig = Rig.running(256, c).run(300);
        rig.kept("a length without sign", RAM, 129, 4);
        rig.state("far away", 0, 2);
        c = new Code().subscribe(0, 0, "f", 0).command(0, 6, 1000, 20).yieldWait().spin().label("f").keep(RAM).spin();
        rig = Rig.running(256, c).run(30);
        rig.kept("a reference ahead counts as long ago", RAM, 14, 1020, 0);
        c = new Code().subscribe(0, 0, "f", 0).command(0, 5, 500, 0).command(0, 5, 10, 0).yieldWait().spin().label("f")
                .keep(RAM).spin();
        rig = Rig.running(256, c).run(60);
        rig.kept("armed anew", RAM, 29, 29, 0);
        rig = ran(new Code().command(0, 5, 10, 0), 40);
        Check.due("without a function", own(rig, 0, 0, 0), 0);
        Check.due("nothing waits", rig.board.process(0, 9), 0);
    }

    private static void alarmsByProcesses() {
        App app = App.of(256, new Code().subscribe(0, 0, "f", 0).command(0, 6, 0, 100).yieldWait().spin().label("f")
                .spin());
        Rig rig = Rig.with(app, app);
        rig.board.boot(0, 1, 0, false, 0);
        rig.run(100);
        rig.event("the second is later", 0, 1, 1, 0);
        rig.event("than the first", 1, 0, 1, 0);
        Check.due("at once", rig.board.event(1, 0), 100);
    }

    private static String text(GrantBoard b) {
        StringBuilder s = new StringBuilder();
        for (int i = 0; b.out(i) >= 0; i++) {
            s.append((char) b.out(i));
        }
        return s.toString();
    }

    private static void consoleWrite() {
        Code c = new Code().subscribe(1, 1, "f", 3).allowReadLabel(1, 1, "text", 5).command(1, 1, 3, 0).keep(RAM)
                .yieldWait().command(1, 1, -1, 0).keep(RAM + 32).yieldWait().spin().label("f").keep(RAM + 16).ret()
                .label("text").text("hello");
        Rig rig = Rig.running(256, c).run(31);
        Check.due("writes", own(rig, 0, 1, 0), 3);
        Check.due("has written", own(rig, 0, 1, 1), 1);
        Check.due("put out", rig.board.count(3), 1);
        rig.run(1);
        Check.due("at a multiple of 8", rig.board.count(3), 2);
        Check.due("has written", own(rig, 0, 1, 1), 2);
        rig.run(8);
        Check.due("all", rig.board.count(3), 3);
        Check.due("both words 0", own(rig, 0, 1, 0), 0);
        Check.due("both words 0", own(rig, 0, 1, 1), 0);
        rig.event("in that tick", 0, 0, 1, 17);
        Check.due("time", rig.board.event(0, 0), 40);
        rig.run(10);
        rig.kept("OK", RAM, 128);
        rig.kept("upcall 1", RAM + 16, 3, 0, 0, 3);
        rig.run(100);
        rig.kept("without sign", RAM + 32, 128);
        rig.kept("upcall 1", RAM + 16, 5, 0, 0, 3);
        Check.holds("text", text(rig.board).equals("helhello"));
    }

    private static void consoleWriteErrors() {
        Code c = new Code().command(1, 1, 5, 0).keep(RAM).allowRead(1, 1, RAM, 8).command(1, 1, 0, 0).keep(RAM + 16)
                .command(1, 1, 8, 0).keep(RAM + 32).command(1, 1, 0, 0).keep(RAM + 48).command(1, 1, 4, 0).keep(RAM + 64);
        Rig rig = ran(c, 120);
        rig.kept("no buffer", RAM, 0, 7);
        rig.kept("0 bytes", RAM + 16, 0, 7);
        rig.kept("OK", RAM + 32, 128);
        rig.kept("2 before 7", RAM + 48, 0, 2);
        rig.kept("busy", RAM + 64, 0, 2);
        rig = ran(new Code().allowRead(1, 0, RAM, 8).command(1, 1, 4, 0), 20);
        Check.due("buffer 0 is not it", rig.board.register(0, 11), 7);
    }

    private static void consoleWriteCutShort() {
        Code c = new Code().subscribe(1, 1, "f", 3).allowReadLabel(1, 1, "text", 5).command(1, 1, 5, 0)
                .allowReadLabel(1, 1, "other", 2).yieldWait().spin().label("f").keep(RAM).spin()
                .label("text").text("hello").label("other").text("ab");
        Rig rig = Rig.running(256, c).run(24);
        Check.due("one byte as yet", rig.board.count(3), 1);
        rig.run(8);
        Check.due("the other buffer's second", rig.board.out(1), 'b');
        rig.run(8);
        Check.due("none", rig.board.count(3), 2);
        Check.due("done", own(rig, 0, 1, 0), 0);
        rig.run(8);
        rig.kept("how many were put out", RAM, 2, 0, 0, 3);
        c = new Code().subscribe(1, 1, "f", 3).allowRead(1, 1, RAM, 5).command(1, 1, 5, 0).allowRead(1, 1, RAM, 0)
                .yieldWait().spin().label("f").keep(RAM + 16).spin();
        rig = Rig.running(256, c).run(64);
        Check.holds("a buffer of size 0 ends it", own(rig, 0, 1, 0) == 0);
    }

    private static App writer(String s, int nops) {
        Code c = new Code();
        for (int i = 0; i < nops; i++) {
            c.nop();
        }
        return App.of(256, c.allowReadLabel(1, 1, "text", s.length()).command(1, 1, 99, 0).spin().label("text").text(s));
    }

    private static void consoleWritersInTurn() {
        Rig rig = Rig.with(writer("aaa", 9), writer("bbb", 1), writer("ccc", 5));
        rig.board.boot(0, 1, 0, false, 0);
        rig.run(200);
        Check.holds("who asked first " + text(rig.board), text(rig.board).equals("bbbcccaaa"));
        rig = Rig.with(writer("aaa", 0), writer("bbb", 0));
        rig.board.boot(0, 1, 0, false, 0);
        rig.run(40);
        rig.board.restart(0);
        rig.run(200);
        String s = text(rig.board);
        Check.holds("one that is restarted is behind " + s, s.equals("aabbbaaa") || s.equals("abbbaaa"));
    }

    private static void consoleRead() {
        Code c = new Code().subscribe(1, 2, "f", 3).allowWrite(1, 1, RAM + 64, 3).command(1, 2, 9, 0).keep(RAM)
                .command(1, 2, 9, 0).keep(RAM + 32).yieldWait().spin().label("f").keep(RAM + 16).spin();
        Rig rig = Rig.running(256, c);
        Check.due("lost", rig.board.type('x'), 0);
        rig.run(50);
        rig.kept("OK", RAM, 128);
        rig.kept("busy", RAM + 32, 0, 2);
        Check.due("reads as many as the buffer has", own(rig, 0, 1, 2), 3);
        Check.due("came", rig.board.type('a'), 1);
        Check.due("has read", own(rig, 0, 1, 3), 1);
        Check.due("came", rig.board.type(255), 1);
        rig.state("still waits", 0, 2);
        Check.due("came", rig.board.type(0), 1);
        rig.state("done", 0, 1);
        Check.due("both words 0", own(rig, 0, 1, 2), 0);
        Check.due("both words 0", own(rig, 0, 1, 3), 0);
        Check.due("no more", rig.board.type('b'), 0);
        rig.run(10);
        rig.kept("upcall 2", RAM + 16, 0, 3, 0, 3);
        Check.due("the bytes", rig.word(RAM + 64), 'a' | 255 << 8);
        rig = ran(new Code().allowWrite(1, 1, RAM, 8).command(1, 2, 0, 0).keep(RAM + 16).allowWrite(1, 1, RAM, 0)
                .command(1, 2, 4, 0).keep(RAM + 32), 60);
        rig.kept("0 bytes", RAM + 16, 0, 7);
        rig.kept("no buffer", RAM + 32, 0, 7);
    }

    private static void consoleReadCutShort() {
        Code c = new Code().subscribe(1, 2, "f", 3).allowWrite(1, 1, RAM + 64, 8).command(1, 2, 4, 0).yieldFor(0, 0)
                .spin().label("f").keep(RAM + 16).spin();
        Rig rig = Rig.running(256, c).run(40);
        Check.due("came", rig.board.type('a'), 1);
        rig = Rig.running(256, new Code().subscribe(1, 2, "f", 3).allowWrite(1, 1, RAM + 64, 8).command(1, 2, 4, 0)
                .allowWrite(1, 1, RAM + 80, 1).yieldWait().spin().label("f").keep(RAM + 16).spin()).run(40);
        Check.due("into the buffer as it is now", rig.board.type('b'), 1);
        Check.due("there", rig.board.memory(RAM + 80), 'b');
        Check.due("lost", rig.board.type('c'), 0);
        Check.due("nothing behind", rig.board.memory(RAM + 81), 0);
        Check.due("the read is done", own(rig, 0, 1, 2), 0);
        rig.run(10);
        rig.kept("how many came", RAM + 16, 0, 1, 0, 3);
    }

    private static void consoleReadAborted() {
        Rig none = ran(new Code().allowWrite(1, 1, RAM + 64, 8).allowRead(1, 1, RAM + 64, 8).command(1, 1, 8, 0)
                .command(1, 3, 0, 0).keep(RAM), 60);
        none.kept("without a read, with buffers and a write", RAM, 0, 3);
        Code c = new Code().command(1, 3, 0, 0).keep(RAM).subscribe(1, 2, "f", 3).allowWrite(1, 1, RAM + 64, 8)
                .command(1, 2, 4, 0).subscribe(3, 0, "f", 0).command(3, 1, 0, 0).yieldFor(3, 0).command(1, 3, 0, 0)
                .keep(RAM + 16).yieldWait().spin().label("f").keep(RAM + 32).spin();
        Rig rig = Rig.running(256, c).run(60);
        rig.kept("without one", RAM, 0, 3);
        Check.due("came", rig.board.type('a'), 1);
        Check.due("came", rig.board.type('b'), 1);
        rig.board.press(0, true);
        rig.run(40);
        rig.kept("OK", RAM + 16, 128);
        rig.kept("cancelled", RAM + 32, 8, 2, 0, 3);
        Check.due("lost", rig.board.type('c'), 0);
    }

    private static void consoleReadersInTurn() {
        App late = App.of(256, new Code().nop().nop().allowWrite(1, 1, RAM + 64, 2).command(1, 2, 2, 0).spin());
        App early = App.of(256, new Code().allowWrite(1, 1, RAM + 0x464, 2).command(1, 2, 2, 0).spin());
        Rig rig = Rig.with(late, early);
        rig.board.boot(0, 1, 0, false, 0);
        rig.run(60);
        Check.due("a", rig.board.type('a'), 1);
        Check.due("b", rig.board.type('b'), 1);
        Check.due("c", rig.board.type('c'), 1);
        Check.due("the first to ask", rig.word(RAM + 0x464), 'a' | 'b' << 8);
        Check.due("the other", rig.word(RAM + 64), 'c');
        rig.board.restart(0);
        Check.due("nothing is under way for it any more", rig.board.type('d'), 0);
    }

    private static void outIsKept() {
        Code c = new Code().allowRead(1, 1, RAM, 12000).command(1, 1, 12000, 0).spin();
        Rig rig = Rig.running(12000, c);
        rig.run(20000).run(20000);
        Check.due("put out", rig.board.count(3), 40000 / 8 - 1);
        Check.due("the last kept", rig.board.out(3999), 0);
        Check.due("no more", rig.board.out(4000), GrantBoard.NONE);
    }

    private static void lamps() {
        Code c = new Code().command(2, 1, 0, 0).keep(RAM).command(2, 1, 3, 0).command(2, 3, 1, 0).command(2, 3, 3, 0)
                .command(2, 1, 2, 0).command(2, 2, 2, 0).keep(RAM + 16).command(2, 1, 4, 0).keep(RAM + 32)
                .command(2, 2, -1, 0).keep(RAM + 48).command(2, 3, 4, 0).keep(RAM + 64);
        Rig rig = ran(c, 120);
        int[] want = {1, 1, 0, 0};
        for (int k = 0; k < 4; k++) {
            Check.due("lamp " + k, rig.board.lamp(k), want[k]);
        }
        rig.kept("OK", RAM, 128);
        rig.kept("OK", RAM + 16, 128);
        rig.kept("no lamp 4", RAM + 32, 0, 6);
        rig.kept("no lamp -1", RAM + 48, 0, 6);
        rig.kept("no lamp 4", RAM + 64, 0, 6);
    }

    private static void buttons() {
        Code c = new Code().command(3, 1, 0, 0).keep(RAM).command(3, 1, 3, 0).command(3, 1, 4, 0).keep(RAM + 16)
                .command(3, 3, 2, 0).keep(RAM + 32).command(3, 3, 1, 0).keep(RAM + 48).command(3, 2, 0, 0).keep(RAM + 64)
                .command(3, 3, -1, 0).keep(RAM + 80).command(3, 2, 7, 0).keep(RAM + 96).subscribe(3, 0, "f", 4)
                .yieldWait().spin().label("f").keep(RAM + 112).spin();
        Rig rig = Rig.running(256, c);
        rig.board.press(2, true);
        rig.run(150);
        rig.kept("OK", RAM, 128);
        rig.kept("no button", RAM + 16, 0, 6);
        rig.kept("down", RAM + 32, 129, 1);
        rig.kept("up", RAM + 48, 129, 0);
        rig.kept("no more", RAM + 64, 128);
        rig.kept("no button", RAM + 80, 0, 6);
        rig.kept("no button", RAM + 96, 0, 6);
        Check.due("hears", own(rig, 0, 3, 0), 8);
        rig.state("waits", 0, 2);
        rig.board.press(0, true);
        rig.state("not heard any more", 0, 2);
        Check.due("as it was", rig.board.press(3, false), 0);
        rig.state("no other way", 0, 2);
        Check.due("down", rig.board.press(3, true), 1);
        rig.run(10);
        rig.kept("upcall", RAM + 112, 3, 1, 0, 4);
        rig.board.press(3, false);
        Check.due("up", rig.board.upcall(0, 0, 3), 0);
        Check.due("button", rig.board.upcall(0, 0, 2), 3);
    }

    private static void buttonsByProcesses() {
        App app = App.of(256, new Code().subscribe(3, 0, "f", 0).command(3, 1, 1, 0).yieldWait().spin().label("f")
                .spin());
        Rig rig = Rig.with(app, app, app);
        rig.board.boot(0, 1, 0, false, 0);
        rig.run(80);
        rig.board.press(1, true);
        for (int i = 0; i < 3; i++) {
            rig.event("by numbers", i, 2 - i, 1, 48);
        }
    }

    private static void random() {
        Code c = new Code().subscribe(4, 0, "f", 0).command(4, 1, 5, 0).keep(RAM).allowWrite(4, 0, RAM + 64, 6)
                .command(4, 1, 4, 0).command(4, 1, -1, 0).spin().label("f").spin();
        Rig rig = Rig.with(App.of(256, c));
        rig.board.boot(0, 1000, 0, false, 0x12345678);
        rig.run(100);
        int z = 0x12345678;
        int[] b = new int[10];
        for (int i = 0; i < 10; i++) {
            z = z * 1664525 + 1013904223;
            b[i] = z >>> 24;
        }
        for (int i = 0; i < 6; i++) {
            Check.due("byte " + i, rig.board.memory(RAM + 64 + i), b[4 + i]);
        }
        Check.due("no more", rig.board.memory(RAM + 70), 0);
        rig.kept("OK", RAM, 128);
        int[] n = {0, 4, 6};
        for (int k = 0; k < 3; k++) {
            Check.due("driver", rig.board.upcall(0, k, 0), 4);
            Check.due("0", rig.board.upcall(0, k, 2), 0);
            Check.due("how many", rig.board.upcall(0, k, 3), n[k]);
            Check.due("0", rig.board.upcall(0, k, 4), 0);
        }
        rig.board.off();
        rig.board.boot(0, 1000, 0, false, 0x12345678);
        rig.run(100);
        Check.due("the seed again", rig.board.memory(RAM + 64), b[4]);
    }

    private static void sampler() {
        Code c = new Code().subscribe(6, 0, "f", 0).command(6, 1, 1, 0).keep(RAM).command(6, 2, 1, 10).keep(RAM + 16)
                .command(6, 2, 0, 5).keep(RAM + 32).spin().label("f").spin();
        Rig rig = Rig.running(256, c);
        rig.board.level(1, 70);
        rig.run(28);
        Check.due("1 + channel", own(rig, 0, 6, 0), 2);
        Check.due("period", own(rig, 0, 6, 1), 10);
        Check.due("due", own(rig, 0, 6, 2), 35);
        rig.run(6);
        Check.due("one as yet", rig.board.process(0, 9), 1);
        int[] first = {6, 0, 1, 70, 1};
        for (int i = 0; i < 5; i++) {
            Check.due("asked for", rig.board.upcall(0, 0, i), first[i]);
        }
        rig.board.level(1, -71);
        rig.run(1);
        int[] second = {6, 0, 1, -71, 0};
        for (int i = 0; i < 5; i++) {
            Check.due("sampled", rig.board.upcall(0, 1, i), second[i]);
        }
        Check.due("due again", own(rig, 0, 6, 2), 45);
        rig.run(10);
        Check.due("each 10", rig.board.process(0, 9), 3);
        rig.kept("OK", RAM, 128);
        rig.kept("OK", RAM + 16, 128);
        rig.kept("busy", RAM + 32, 0, 2);
        Rig zero = Rig.running(256, new Code().command(6, 2, 0, 20).yieldFor(6, 0).keep(RAM).spin());
        zero.board.level(0, 33);
        zero.run(50);
        zero.kept("channel 0", RAM, 0, 33, 0);
        rig.run(300);
        Check.due("dropped", rig.board.count(9), 23);
    }

    private static void samplerErrors() {
        Code c = new Code().command(6, 1, 2, 0).keep(RAM).command(6, 1, -1, 0).keep(RAM + 16).command(6, 2, 2, 5)
                .keep(RAM + 32).command(6, 2, 1, 0).keep(RAM + 48).command(6, 2, 1, 100001).keep(RAM + 64)
                .command(6, 2, 1, -1).keep(RAM + 80).command(6, 3, 0, 0).keep(RAM + 96).command(6, 2, 0, 100000)
                .keep(RAM + 112).command(6, 2, 0, 0).keep(RAM + 128).command(6, 3, 0, 0).keep(RAM + 144)
                .command(6, 2, 1, 1).keep(RAM + 160);
        Rig rig = ran(c, 200);
        rig.kept("no channel 2", RAM, 0, 6);
        rig.kept("no channel -1", RAM + 16, 0, 6);
        rig.kept("no channel 2", RAM + 32, 0, 6);
        rig.kept("period 0", RAM + 48, 0, 6);
        rig.kept("period 100001", RAM + 64, 0, 6);
        rig.kept("period -1", RAM + 80, 0, 6);
        rig.kept("3 without", RAM + 96, 0, 3);
        rig.kept("period 100000", RAM + 112, 128);
        rig.kept("6 before 2", RAM + 128, 0, 6);
        rig.kept("3", RAM + 144, 128);
        rig.kept("period 1", RAM + 160, 128);
    }

    /** Process 0 has a box of 6 bytes and waits; process 1 does what it is told. */
    private static Rig posting(Code sender) {
        App receiver = App.plain(256).name("box").code(new Code().allowWrite(7, 0, RAM + 64, 6).subscribe(7, 0, "f", 5)
                .label("x").yieldWait().j("x").label("f").keep(RAM).ret());
        Rig rig = Rig.with(receiver, App.plain(256).name("sender").code(sender));
        rig.board.boot(1, 1, 0, false, 0);
        return rig;
    }

    private static final int SENDER = RAM + 1024;

    private static void post() {
        Code c = new Code().allowReadLabel(7, 0, "text", 9).command(7, 1, 0, 4).keep(SENDER).command(7, 1, 0, 4)
                .keep(SENDER + 16).spin().label("text").text("postcards");
        Rig rig = posting(c).run(80);
        rig.kept("OK1", SENDER, 129, 4);
        rig.kept("full", SENDER + 16, 0, 2);
        Check.due("bytes", rig.word(RAM + 64), 'p' | 'o' << 8 | 's' << 16 | 't' << 24);
        Check.due("no more", rig.word(RAM + 68), 0);
        Check.due("full", own(rig, 0, 7, 0), 1);
        rig.kept("upcall", RAM, 1, 4, 0, 5);
        rig.state("it was run", 0, 2);
        c = new Code().allowReadLabel(7, 0, "text", 9).command(7, 1, 0, 99).keep(SENDER).spin().label("text")
                .text("postcards");
        rig = posting(c).run(80);
        rig.kept("as many as there is place for", SENDER, 129, 6);
        Check.due("bytes", rig.word(RAM + 68), 'c' | 'a' << 8);
        rig.kept("upcall", RAM, 1, 6, 0);
        c = new Code().allowReadLabel(7, 0, "text", 3).command(7, 1, 0, -1).keep(SENDER).spin().label("text")
                .text("postcards");
        rig = posting(c).run(80);
        rig.kept("as many as the buffer has", SENDER, 129, 3);
        c = new Code().command(7, 1, 0, 8).keep(SENDER).spin();
        rig = posting(c).run(80);
        rig.kept("none", SENDER, 129, 0);
        rig.kept("upcall", RAM, 1, 0, 0);
        Check.due("full all the same", own(rig, 0, 7, 0), 1);

        Rig one = ran(new Code().command(7, 2, 0, 0).keep(RAM), 20);
        one.kept("empty already", RAM, 0, 3);
        App emptying = App.of(256, new Code().allowWrite(7, 0, RAM + 64, 6).yieldFor(7, 0).command(7, 2, 0, 0).keep(RAM)
                .command(7, 2, 0, 0).keep(RAM + 16).spin());
        Code twice = new Code();
        for (int i = 0; i < 20; i++) {
            twice.nop();
        }
        twice.command(7, 1, 0, 0).command(7, 1, 0, 0).keep(SENDER).spin();
        rig = Rig.with(emptying, App.of(256, twice));
        rig.board.boot(0, 1, 0, false, 0);
        rig.run(150);
        rig.kept("emptied", RAM, 128);
        rig.kept("emptied again", RAM + 16, 128);
        rig.kept("sent again", SENDER, 129, 0);
    }

    private static void sent(String what, Code receiver, int to, int error) {
        Rig rig = Rig.with(App.of(256, receiver), App.of(256, new Code().allowWrite(7, 0, SENDER + 64, 4)
                .command(7, 1, to, 4).keep(SENDER).spin()));
        rig.board.boot(1, 1, 0, false, 0);
        rig.run(100);
        rig.kept(what, SENDER, 0, error);
    }

    private static void postErrors() {
        Code box = new Code().allowWrite(7, 0, RAM + 64, 6).yieldWait();
        sent("no such process", box, 2, 11);
        sent("no such process", box, -1, 11);
        sent("itself", box, 1, 6);
        sent("ended", new Code().allowWrite(7, 0, RAM + 64, 6).exit(0, 0), 0, 11);
        sent("faulted", new Code().allowWrite(7, 0, RAM + 64, 6).ebreak(), 0, 11);
        sent("no grant", new Code().yieldWait(), 0, 11);
        sent("no buffer", new Code().allowRead(7, 0, RAM + 64, 6).yieldWait(), 0, 11);
        Rig rig = ran(new Code().command(7, 1, 0, 4).keep(RAM), 20);
        rig.kept("itself without a buffer", RAM, 0, 11);
    }

    private static void postNames() {
        Code c = new Code().allowReadLabel(7, 0, "text", 12).command(7, 3, 3, 0).keep(SENDER).command(7, 3, 4, 0)
                .keep(SENDER + 16).command(7, 3, 0, 0).keep(SENDER + 32).command(7, 3, 13, 0).keep(SENDER + 48)
                .allowReadLabel(7, 0, "me", 6).command(7, 3, 6, 0).keep(SENDER + 64).command(7, 3, 17, 0)
                .keep(SENDER + 80).command(7, 3, -1, 0).keep(SENDER + 96).spin().label("text").text("boxes and so")
                .label("me").text("sender");
        Rig rig = posting(c).run(150);
        rig.kept("found", SENDER, 129, 0);
        rig.kept("none", SENDER + 16, 0, 11);
        rig.kept("0", SENDER + 32, 0, 7);
        rig.kept("beyond the buffer", SENDER + 48, 0, 7);
        rig.kept("itself", SENDER + 64, 129, 1);
        rig.kept("17", SENDER + 80, 0, 7);
        rig.kept("-1", SENDER + 96, 0, 7);
        rig = Rig.running(App.plain(64).name("sixteen bytes ab").code(new Code().allowReadLabel(7, 0, "t", 16)
                .command(7, 3, 16, 0).keep(RAM).spin().label("t").text("sixteen bytes ab"))).run(30);
        rig.kept("16", RAM, 129, 0);
        rig = Rig.running(App.plain(64).name("a").code(new Code().allowReadLabel(7, 0, "t", 20)
                .command(7, 3, 17, 0).keep(RAM).command(7, 3, 1, 0).keep(RAM + 16).spin().label("t")
                .text("abcdefghijklmnopqrst"))).run(40);
        rig.kept("17 of 20", RAM, 0, 7);
        rig.kept("1", RAM + 16, 129, 0);
    }

    private static int crc(String s) {
        CRC32 c = new CRC32();
        c.update(s.getBytes(java.nio.charset.StandardCharsets.ISO_8859_1));
        return (int) c.getValue();
    }

    private static void sums() {
        Code c = new Code().command(8, 1, 9, 0).keep(RAM).allowReadLabel(8, 0, "text", 9).command(8, 1, 9, 0)
                .keep(RAM + 16).command(8, 1, 4, 0).keep(RAM + 32).command(8, 1, -1, 0).keep(RAM + 48)
                .command(8, 1, 0, 0).keep(RAM + 64).spin().label("text").text("123456789");
        Rig rig = ran(c, 100);
        rig.kept("no buffer", RAM, 129, 0);
        rig.kept("nine", RAM + 16, 129, 0xCBF43926);
        rig.kept("four", RAM + 32, 129, crc("1234"));
        rig.kept("all", RAM + 48, 129, 0xCBF43926);
        rig.kept("none", RAM + 64, 129, 0);
        Check.due("grant", rig.board.grant(0, 8), CONTROL - 16);
    }
}

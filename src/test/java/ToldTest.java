/** Promises 14 to 25: what is told. */
public final class ToldTest {
    private static final int NONE = GrantBoard.NONE, OUTSIDE = GrantBoard.OUTSIDE, STATE = GrantBoard.STATE;
    private static final int RAM = 0x20000;

    public static void main(String[] args) {
        count();
        countsOutliveBoots();
        process();
        register();
        memory();
        entry();
        upcall();
        grant();
        outAndLamp();
        event();
        eventsKept();
        stored();
        audit();
        Check.finish();
    }

    /** Subscribes to a button, hears it, and goes on for ever. */
    private static Code hearing() {
        return new Code().subscribe(3, 0, "f", 0).command(3, 1, 0, 0).label("f").spin();
    }

    private static void count() {
        Rig rig = Rig.running(64, hearing());
        GrantBoard b = rig.board;
        rig.run(20);
        int[] want = {1, 1, 20, 0, 2, 2, 0, 0, 0, 0, 20, 2};
        for (int what = 0; what < 12; what++) {
            Check.due("count " + what, b.count(what), want[what]);
        }
        Check.due("12", b.count(12), OUTSIDE);
        Check.due("-1", b.count(-1), OUTSIDE);
        Check.due("least", b.count(0x80000000), OUTSIDE);
        b.off();
        Check.due("off", b.count(0), 0);
        Check.due("off", b.count(1), 0);
        Check.due("off", b.count(2), 0);
    }

    private static void countsOutliveBoots() {
        Code c = new Code().allowRead(1, 1, RAM, 2).command(1, 1, 2, 0).yieldFor(1, 1).command(6, 1, 0, 0)
                .lw(5, 0, 0);
        Rig rig = Rig.with(App.of(64, c));
        for (int round = 1; round <= 2; round++) {
            rig.board.boot(0, 1000, 1, false, 0);
            rig.run(100);
            Check.due("bytes", rig.board.count(3), 4 * round);
            Check.due("writes", rig.board.count(4), 2);
            Check.due("calls", rig.board.count(5), 8 * round);
            Check.due("upcalls", rig.board.count(6), 2 * round);
            Check.due("faults", rig.board.count(7), 2 * round);
            Check.due("restarts", rig.board.count(8), round);
            Check.due("events", rig.board.count(11), 13 * round);
            rig.board.off();
        }
    }

    private static void process() {
        GrantBoard off = new GrantBoard();
        Check.due("off", off.process(0, 0), STATE);
        Check.due("off", off.process(-1, 99), STATE);
        Rig rig = Rig.with(App.of(64, new Code().spin()),
                App.program(700, 5).code(new Code().command(3, 1, 0, 0).subscribe(3, 0, "f", 0).label("f").spin()));
        rig.board.boot(0, 1, 0, false, 0);
        rig.run(40);
        rig.board.press(0, true);
        GrantBoard b = rig.board;
        int at = 0x10024;
        int[] want = {1, at + 40 + 24 + 28, at, b.process(1, 3), RAM + 2048, 2048, RAM + 2048 + 700,
            RAM + 4096 - 64 - 20, 0, 1, 1, 0, 0, 5, 1};
        for (int what = 0; what <= 14; what++) {
            Check.due("process " + what, b.process(1, what), want[what]);
        }
        Check.due("total", b.process(1, 3), 40 + 24 + 28 + 4);
        Check.due("15", b.process(1, 15), OUTSIDE);
        Check.due("-1", b.process(1, -1), OUTSIDE);
        Check.due("none", b.process(2, 0), NONE);
        Check.due("none before outside", b.process(2, 99), NONE);
        Check.due("none", b.process(-1, 0), NONE);
        Check.due("turn", b.process(0, 14), 0);
    }

    private static void register() {
        GrantBoard off = new GrantBoard();
        Check.due("off", off.register(0, 32), STATE);
        Rig rig = Rig.running(64, new Code().li(31, -5).spin()).run(1);
        Check.due("x31", rig.board.register(0, 31), -5);
        Check.due("x0", rig.board.register(0, 0), 0);
        Check.due("32", rig.board.register(0, 32), NONE);
        Check.due("-1", rig.board.register(0, -1), NONE);
        Check.due("process", rig.board.register(1, 0), NONE);
        Check.due("process", rig.board.register(-1, 0), NONE);
    }

    private static void memory() {
        Rig rig = Rig.running(64, new Code().li(5, 0x80818283).sw(Code.A1, 5, 4).spin()).run(5);
        GrantBoard b = rig.board;
        Check.due("a byte without sign", b.memory(RAM + 7), 0x80);
        Check.due("lowest first", b.memory(RAM + 4), 0x83);
        Check.due("flash", b.memory(0x10000), 2);
        Check.due("below", b.memory(0xFFFF), NONE);
        Check.due("above", b.memory(0x30000), NONE);
        Check.due("last", b.memory(0x2FFFF), 0);
        Check.due("0", b.memory(0), NONE);
        Check.due("with a sign", b.memory(0x80010000), NONE);
    }

    private static void entry() {
        GrantBoard off = new GrantBoard();
        Check.due("off", off.entry(0, 0, 0), STATE);
        Rig rig = Rig.running(64, new Code().spin());
        GrantBoard b = rig.board;
        Check.due("15", b.entry(0, 15, 0), 0);
        Check.due("16", b.entry(0, 16, 0), NONE);
        Check.due("-1", b.entry(0, -1, 0), NONE);
        Check.due("process", b.entry(1, 0, 0), NONE);
        Check.due("none before outside", b.entry(1, 0, 2), NONE);
        Check.due("what 2", b.entry(0, 0, 2), OUTSIDE);
        Check.due("what -1", b.entry(0, 0, -1), OUTSIDE);
        Check.due("ram", b.entry(0, 2, 0), 0x8000 | 7);
        Check.due("ram", b.entry(0, 2, 1), 27);
    }

    private static void upcall() {
        GrantBoard off = new GrantBoard();
        Check.due("off", off.upcall(0, 0, 0), STATE);
        Rig rig = Rig.running(64, hearing()).run(20);
        GrantBoard b = rig.board;
        Check.due("none", b.upcall(0, 0, 0), NONE);
        Check.due("none before outside", b.upcall(0, 0, 9), NONE);
        b.press(0, true);
        b.press(0, false);
        int[] want = {3, 0, 0, 0, 0};
        for (int what = 0; what < 5; what++) {
            Check.due("second " + what, b.upcall(0, 1, what), want[what]);
        }
        Check.due("first", b.upcall(0, 0, 3), 1);
        Check.due("third", b.upcall(0, 2, 0), NONE);
        Check.due("-1", b.upcall(0, -1, 0), NONE);
        Check.due("what 5", b.upcall(0, 0, 5), OUTSIDE);
        Check.due("what -1", b.upcall(0, 0, -1), OUTSIDE);
        Check.due("process", b.upcall(1, 0, 0), NONE);
    }

    private static void grant() {
        GrantBoard off = new GrantBoard();
        Check.due("off", off.grant(0, 0), STATE);
        Rig rig = Rig.running(64, hearing()).run(20);
        GrantBoard b = rig.board;
        Check.due("buttons", b.grant(0, 3), RAM + 1024 - 64 - 20);
        Check.due("alarm", b.grant(0, 0), NONE);
        Check.due("lamps", b.grant(0, 2), NONE);
        Check.due("9", b.grant(0, 9), NONE);
        Check.due("-1", b.grant(0, -1), NONE);
        Check.due("process", b.grant(1, 3), NONE);
        Check.due("process", b.grant(-1, 3), NONE);
    }

    private static void outAndLamp() {
        Code c = new Code().allowReadLabel(1, 1, "t", 2).command(1, 1, 2, 0).command(2, 1, 3, 0).spin().label("t")
                .half(0xFF41).half(0);
        Rig rig = Rig.running(64, c).run(60);
        GrantBoard b = rig.board;
        Check.due("first", b.out(0), 0x41);
        Check.due("without sign", b.out(1), 0xFF);
        Check.due("no third", b.out(2), NONE);
        Check.due("-1", b.out(-1), NONE);
        Check.due("4000", b.out(4000), NONE);
        Check.due("lamp 3", b.lamp(3), 1);
        Check.due("lamp 0", b.lamp(0), 0);
        Check.due("lamp 4", b.lamp(4), NONE);
        Check.due("lamp -1", b.lamp(-1), NONE);
        b.off();
        Check.due("out stays", b.out(1), 0xFF);
        rig.boot();
        Check.due("out stays over a boot", b.out(1), 0xFF);
    }

    private static void event() {
        GrantBoard off = new GrantBoard();
        Check.due("none", off.event(0, 0), NONE);
        Check.due("none before outside", off.event(0, 9), NONE);
        Rig rig = Rig.running(64, new Code().li(Code.A4, -3).ecall().exit(0, 5)).run(10);
        GrantBoard b = rig.board;
        rig.event("ended", 0, 0, 4, 5);
        rig.event("exit", 1, 0, 0, 6);
        rig.event("a call", 2, 0, 0, -3);
        Check.due("time", b.event(2, 0), 2);
        Check.due("no more", b.event(3, 0), NONE);
        Check.due("-1", b.event(-1, 0), NONE);
        Check.due("what 4", b.event(0, 4), OUTSIDE);
        Check.due("what -1", b.event(0, -1), OUTSIDE);
        b.off();
        rig.event("when off", 0, 0, 4, 5);
        rig.boot().run(1);
        rig.event("over a boot", 0, 0, 4, 5);
    }

    private static void eventsKept() {
        Rig rig = Rig.running(64, new Code().label("x").addi(Code.A4, Code.A4, 100).ecall().j("x"));
        rig.run(3 * 199);
        Check.due("199", rig.board.event(198, 3), 100);
        Check.due("no more", rig.board.event(199, 3), NONE);
        rig.run(3);
        Check.due("200", rig.board.event(199, 3), 100);
        rig.run(3);
        Check.due("the oldest kept of 201", rig.board.event(199, 3), 200);
        Check.due("no more of 201", rig.board.event(200, 3), NONE);
        rig.run(3);
        Check.due("the oldest kept", rig.board.event(199, 3), 300);
        Check.due("no more are", rig.board.event(200, 3), NONE);
        Check.due("the latest", rig.board.event(0, 3), 20200);
        Check.due("one before", rig.board.event(1, 3), 20100);
        Check.due("noted in all", rig.board.count(11), 202);
    }

    private static void stored() {
        Rig rig = Rig.with(App.plain(64).storeNumber(5).code(new Code().li(5, 0xF1F2F3F4).sw(Code.A1, 5, 0)
                .allowRead(5, 0, RAM, 4).command(5, 2, 9, 3).spin()));
        Check.due("before the first boot", rig.board.stored(5, 9, -1), NONE);
        rig.boot().run(30);
        Check.due("length", rig.board.stored(5, 9, -1), 3);
        Check.due("byte", rig.board.stored(5, 9, 0), 0xF4);
        Check.due("byte", rig.board.stored(5, 9, 2), 0xF2);
        Check.due("beyond", rig.board.stored(5, 9, 3), NONE);
        Check.due("below", rig.board.stored(5, 9, -2), NONE);
        Check.due("key", rig.board.stored(5, 8, -1), NONE);
        Check.due("number", rig.board.stored(4, 9, -1), NONE);
    }

    private static void audit() {
        Rig rig = Rig.with(App.of(64, hearing()), App.of(300, new Code().allowRead(8, 0, 0x10030, 4).spin()),
                App.of(0, new Code().command(0, 5, 3, 3).spin()));
        Check.due("off", rig.board.audit(), 0);
        rig.board.boot(0, 1, 0, false, 0);
        for (int i = 0; i < 20; i++) {
            rig.run(3);
            Check.due("audit", rig.board.audit(), 0);
        }
    }
}

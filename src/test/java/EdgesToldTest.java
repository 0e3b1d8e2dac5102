/** Promises 8 to 25: bounds of each call, which of several answers comes first, and that a refused call changes nothing. */
public final class EdgesToldTest {
    private static final int NONE = GrantBoard.NONE, OUTSIDE = GrantBoard.OUTSIDE, STATE = GrantBoard.STATE;
    private static final int MIN = 0x80000000, MAX = 0x7FFFFFFF, RAM = 0x20000;
    private static final int[] FAR = {-1, MIN, MAX, -2};

    public static void main(String[] args) {
        runBounds();
        pressBounds();
        typeBounds();
        levelBounds();
        holdBounds();
        restartBounds();
        countBounds();
        processBounds();
        registerBounds();
        entryBounds();
        upcallBounds();
        grantBounds();
        outBounds();
        lampBounds();
        eventBounds();
        eventsKept();
        eventKinds();
        allOff();
        refusedWhenOff();
        refusedWhenOn();
        auditIsZero();
        Check.finish();
    }

    private static Rig two() {
        App one = App.of(64, new Code().subscribe(3, 0, "f", 0).command(3, 1, 0, 0).label("f").spin());
        Rig rig = Rig.with(one, App.of(64, new Code().spin()));
        Check.due("boot", rig.board.boot(0, 5, 0, false, 0), 2);
        return rig.run(60);
    }

    /** n 1 .. 20000. */
    private static void runBounds() {
        Rig rig = two();
        int[] outside = {0, -1, 20001, MIN, MAX};
        for (int n : outside) {
            Check.due("run " + n, rig.board.run(n), OUTSIDE);
            Check.due("no time goes by", rig.board.count(2), 60);
            Check.due("run " + n + " when off", new GrantBoard().run(n), STATE);
        }
        Check.due("run 1", rig.board.run(1), 1);
        Check.due("run 2", rig.board.run(2), 2);
        Check.due("run 19999", rig.board.run(19999), 19999);
        Check.due("run 20000", rig.board.run(20000), 20000);
        Check.due("time", rig.board.count(2), 60 + 3 + 39999);
        Check.due("run 1 when off", new GrantBoard().run(1), STATE);
    }

    private static void pressBounds() {
        for (int round = 0; round < 2; round++) {
            GrantBoard b = round == 0 ? new GrantBoard() : two().board;
            for (int k : new int[] {-1, 4, MIN, MAX}) {
                Check.due("press " + k, b.press(k, true), OUTSIDE);
                Check.due("press " + k, b.press(k, false), OUTSIDE);
            }
            for (int k = 0; k < 4; k++) {
                Check.due("up at first " + k, b.press(k, false), 0);
                Check.due("down " + k, b.press(k, true), 1);
                Check.due("was so " + k, b.press(k, true), 0);
                Check.due("up " + k, b.press(k, false), 1);
            }
        }
        Rig rig = two();
        rig.board.off();
        rig.board.press(0, true);
        rig.boot().run(20);
        Check.due("nobody heard it when off", rig.board.process(0, 9), 0);
        rig.board.press(0, false);
        Check.due("it was down", rig.board.process(0, 9), 1);
    }

    private static void typeBounds() {
        Rig rig = Rig.running(64, new Code().allowWrite(1, 1, RAM, 3).command(1, 2, 3, 0).spin()).run(30);
        int[] outside = {-1, 256, 257, MIN, MAX, 0x100FF};
        for (int b : outside) {
            Check.due("type " + b, rig.board.type(b), OUTSIDE);
            Check.due("type " + b + " when off", new GrantBoard().type(b), STATE);
        }
        Check.due("type 0", rig.board.type(0), 1);
        Check.due("type 255", rig.board.type(255), 1);
        Check.due("type 128", rig.board.type(128), 1);
        Check.due("none was lost", rig.word(RAM), 128 << 16 | 255 << 8);
        Check.due("lost", rig.board.type(7), 0);
        Check.due("when off", new GrantBoard().type(7), STATE);
    }

    private static void levelBounds() {
        Rig rig = new Rig();
        for (int k : new int[] {-1, 2, MIN, MAX}) {
            Check.due("channel " + k, rig.board.level(k, 5), OUTSIDE);
        }
        for (int v : new int[] {0, 1, -1, MIN, MAX}) {
            Check.due("level 0", rig.board.level(0, v), 1);
            Check.due("level 1", rig.board.level(1, v), 1);
        }
        new Talk(64).subscribe(6, 0).command("0 at first", 6, 1, 1, 0, 128).lastUpcall("0", 6, 0, 1, 0, 1)
                .then(r -> r.board.level(2, 5)).then(r -> r.board.level(0, 9)).command("the other", 6, 1, 1, 0, 128)
                .lastUpcall("0", 6, 0, 1, 0, 1).then(r -> r.board.level(1, MIN)).command("it", 6, 1, 1, 0, 128)
                .lastUpcall("least", 6, 0, 1, MIN, 1).go();
    }

    private static void holdBounds() {
        Rig rig = two();
        for (int p : new int[] {-1, 2, 8, MIN, MAX}) {
            Check.due("hold " + p, rig.board.hold(p, true), NONE);
            Check.due("hold " + p + " off", rig.board.hold(p, false), NONE);
            Check.due("when off", new GrantBoard().hold(p, true), STATE);
        }
        for (int p = 0; p < 2; p++) {
            Check.due("is not", rig.board.hold(p, false), 0);
            Check.due("is", rig.board.hold(p, true), 1);
            Check.due("was so", rig.board.hold(p, true), 0);
            Check.due("not any more", rig.board.hold(p, false), 1);
        }
        Check.due("when off", new GrantBoard().hold(0, true), STATE);
    }

    private static void restartBounds() {
        Rig rig = two();
        for (int p : new int[] {-1, 2, 8, MIN, MAX}) {
            Check.due("restart " + p, rig.board.restart(p), NONE);
            Check.due("when off", new GrantBoard().restart(p), STATE);
        }
        Check.due("none was", rig.board.count(8), 0);
        Check.due("0", rig.board.restart(0), 1);
        Check.due("1", rig.board.restart(1), 1);
        Check.due("two were", rig.board.count(8), 2);
        Check.due("when off", new GrantBoard().restart(0), STATE);
    }

    private static void countBounds() {
        for (int what : new int[] {-1, 12, 13, MIN, MAX}) {
            Check.due("count " + what, two().board.count(what), OUTSIDE);
            Check.due("count " + what + " when off", new GrantBoard().count(what), OUTSIDE);
        }
        for (int what = 0; what < 12; what++) {
            Check.due("count " + what + " at first", new GrantBoard().count(what), 0);
            Check.holds("count " + what, two().board.count(what) >= 0);
        }
    }

    /** STATE; NONE (process); OUTSIDE (what). */
    private static void processBounds() {
        Rig rig = two();
        for (int what : new int[] {-1, 15, 16, MIN, MAX}) {
            Check.due("what " + what, rig.board.process(0, what), OUTSIDE);
            Check.due("none before outside", rig.board.process(2, what), NONE);
            Check.due("state before both", new GrantBoard().process(2, what), STATE);
        }
        for (int p : new int[] {-1, 2, 8, MIN, MAX}) {
            Check.due("process " + p, rig.board.process(p, 0), NONE);
            Check.due("process " + p, rig.board.process(p, 14), NONE);
            Check.due("when off", new GrantBoard().process(p, 0), STATE);
        }
        for (int what = 0; what < 15; what++) {
            Check.holds("what " + what, rig.board.process(1, what) >= 0);
        }
    }

    private static void registerBounds() {
        Rig rig = two();
        for (int r : new int[] {-1, 32, 33, MIN, MAX}) {
            Check.due("x" + r, rig.board.register(0, r), NONE);
            Check.due("x" + r + " of none", rig.board.register(2, r), NONE);
            Check.due("when off", new GrantBoard().register(0, r), STATE);
        }
        Check.due("x31", rig.board.register(1, 31), 0);
        Check.due("x0", rig.board.register(1, 0), 0);
        for (int p : new int[] {-1, 2, MIN, MAX}) {
            Check.due("process " + p, rig.board.register(p, 0), NONE);
        }
    }

    private static void entryBounds() {
        Rig rig = two();
        for (int k : new int[] {-1, 16, 17, MIN, MAX}) {
            Check.due("entry " + k, rig.board.entry(0, k, 0), NONE);
            Check.due("none before outside", rig.board.entry(0, k, 2), NONE);
            Check.due("process " + k, rig.board.entry(k, 0, 0), NONE);
            Check.due("when off", new GrantBoard().entry(0, k, 5), STATE);
        }
        for (int what : new int[] {-1, 2, MIN, MAX}) {
            Check.due("what " + what, rig.board.entry(0, 0, what), OUTSIDE);
            Check.due("what " + what + " of the last", rig.board.entry(1, 15, what), OUTSIDE);
            Check.due("none before outside", rig.board.entry(2, 0, what), NONE);
        }
        Check.due("the last", rig.board.entry(1, 15, 0), 0);
        Check.due("the last", rig.board.entry(1, 15, 1), 0);
    }

    private static void upcallBounds() {
        Rig rig = two();
        Check.due("none waits", rig.board.upcall(0, 0, 0), NONE);
        rig.board.press(0, true);
        rig.board.press(0, false);
        for (int k : new int[] {-1, 2, 10, MIN, MAX}) {
            Check.due("upcall " + k, rig.board.upcall(0, k, 0), NONE);
            Check.due("none before outside", rig.board.upcall(0, k, 5), NONE);
            Check.due("process " + k, rig.board.upcall(k, 0, 0), NONE);
            Check.due("when off", new GrantBoard().upcall(0, k, 5), STATE);
        }
        for (int what : new int[] {-1, 5, MIN, MAX}) {
            Check.due("what " + what, rig.board.upcall(0, 0, what), OUTSIDE);
            Check.due("what " + what, rig.board.upcall(0, 1, what), OUTSIDE);
            Check.due("none before outside", rig.board.upcall(1, 0, what), NONE);
        }
        int[] last = {3, 0, 0, 0, 0};
        int[] first = {3, 0, 0, 1, 0};
        for (int what = 0; what < 5; what++) {
            Check.due("the first", rig.board.upcall(0, 0, what), first[what]);
            Check.due("the last", rig.board.upcall(0, 1, what), last[what]);
        }
    }

    private static void grantBounds() {
        Rig rig = two();
        for (int d : new int[] {-1, 9, 10, MIN, MAX}) {
            Check.due("driver " + d, rig.board.grant(0, d), NONE);
            Check.due("process " + d, rig.board.grant(d, 3), NONE);
            Check.due("when off", new GrantBoard().grant(0, d), STATE);
        }
        for (int d = 0; d < 9; d++) {
            Check.due("driver " + d, rig.board.grant(0, d), d == 3 ? RAM + 960 - 20 : NONE);
            Check.due("driver " + d + " of the other", rig.board.grant(1, d), NONE);
        }
    }

    private static void outBounds() {
        for (int i : new int[] {0, 1, 3999, 4000, -1, MIN, MAX}) {
            Check.due("nothing put out " + i, new GrantBoard().out(i), NONE);
        }
        Rig rig = Rig.running(64, new Code().allowRead(1, 1, 0x10000, 2).command(1, 1, 2, 0).spin()).run(40);
        Check.due("0", rig.board.out(0), 2);
        Check.due("1", rig.board.out(1), 0);
        for (int i : new int[] {2, 3999, 4000, -1, MIN, MAX}) {
            Check.due("out " + i, rig.board.out(i), NONE);
        }
    }

    private static void lampBounds() {
        Rig rig = Rig.running(64, new Code().command(2, 1, 0, 0).command(2, 1, 3, 0).spin()).run(20);
        int[] want = {1, 0, 0, 1};
        for (int k = 0; k < 4; k++) {
            Check.due("lamp " + k, rig.board.lamp(k), want[k]);
            Check.due("off at first", new GrantBoard().lamp(k), 0);
        }
        for (int k : new int[] {-1, 4, 32, MIN, MAX}) {
            Check.due("lamp " + k, rig.board.lamp(k), NONE);
        }
    }

    private static void eventBounds() {
        Rig rig = two();
        Check.due("events", rig.board.count(11), 2);
        for (int k : new int[] {-1, 2, 199, 200, MIN, MAX}) {
            Check.due("event " + k, rig.board.event(k, 0), NONE);
            Check.due("none before outside", rig.board.event(k, 9), NONE);
        }
        for (int what : new int[] {-1, 4, MIN, MAX}) {
            Check.due("what " + what, rig.board.event(0, what), OUTSIDE);
            Check.due("what " + what, rig.board.event(1, what), OUTSIDE);
            Check.due("none of a new one", new GrantBoard().event(0, what), NONE);
        }
        rig.board.off();
        Check.due("when off, too", rig.board.event(1, 3), 1);
    }

    /** 200 are kept. */
    private static void eventsKept() {
        Rig rig = Rig.running(64, new Code().label("x").addi(Code.A4, Code.A4, 10).ecall().j("x"));
        for (int n = 1; n <= 405; n++) {
            rig.board.run(3);
            if (n < 3 || n > 197 && n < 204 || n > 398 && n < 403) {
                int kept = Math.min(n, 200);
                Check.due(n + " noted", rig.board.count(11), n);
                Check.due(n + ": the latest", rig.board.event(0, 3), 10 * n);
                Check.due(n + ": the oldest", rig.board.event(kept - 1, 3), 10 * (n - kept + 1));
                Check.due(n + ": its time", rig.board.event(kept - 1, 0), 3 * (n - kept + 1) - 1);
                Check.due(n + ": no more", rig.board.event(kept, 3), NONE);
            }
        }
    }

    /** Kind and number of each event. */
    private static void eventKinds() {
        Rig rig = Rig.with(App.of(64, new Code().nop()), App.of(64, new Code().subscribe(1, 2, "f", 0)
                .allowWrite(1, 1, RAM + 1024, 1).command(1, 2, 1, 0).yieldWait().label("f").li(14, MIN).ecall()
                .exit(0, -5)));
        rig.board.boot(1, 1, 1, false, 0);
        rig.run(2);
        rig.event("started again by the fault", 0, 0, 3, 1);
        rig.event("the fault", 1, 0, 2, 1);
        rig.run(2);
        rig.event("a second fault", 0, 0, 2, 1);
        rig.board.restart(0);
        rig.event("by the maker", 0, 0, 3, 2);
        rig.board.hold(0, true);
        rig.run(40);
        rig.event("yield", 0, 1, 0, 0);
        rig.board.type(9);
        rig.event("an upcall: 16 times the driver and its number", 0, 1, 1, 18);
        rig.run(3);
        rig.event("a4", 0, 1, 0, MIN);
        rig.run(10);
        rig.event("it ended: the code", 0, 1, 4, -5);
        rig.event("by a call", 1, 1, 0, 6);
        Check.due("its time", rig.board.event(0, 0), rig.board.event(1, 0));
    }

    private static void allOff() {
        GrantBoard b = new GrantBoard();
        for (int i = -1; i < 3; i++) {
            Check.due("process", b.process(i, i), STATE);
            Check.due("register", b.register(i, i), STATE);
            Check.due("entry", b.entry(i, i, i), STATE);
            Check.due("upcall", b.upcall(i, i, i), STATE);
            Check.due("grant", b.grant(i, i), STATE);
            Check.due("hold", b.hold(i, true), STATE);
            Check.due("restart", b.restart(i), STATE);
        }
        Check.due("audit", b.audit(), 0);
        Rig rig = two();
        rig.board.off();
        Check.due("after it was on", rig.board.process(0, 0), STATE);
        Check.due("audit", rig.board.audit(), 0);
    }

    private static Rig wasOn() {
        Rig rig = busy();
        rig.board.off();
        return rig;
    }

    private static void refusedWhenOff() {
        Twins t = new Twins(EdgesToldTest::wasOn);
        t.refused("run", STATE, b -> b.run(5)).refused("run outside", STATE, b -> b.run(0))
                .refused("type", STATE, b -> b.type(5)).refused("hold", STATE, b -> b.hold(0, true))
                .refused("restart", STATE, b -> b.restart(0)).refused("off", STATE, GrantBoard::off)
                .refused("press", OUTSIDE, b -> b.press(4, true)).refused("level", OUTSIDE, b -> b.level(2, 9))
                .refused("cut", OUTSIDE, b -> b.cut(-2)).refused("boot", OUTSIDE, b -> b.boot(0, 0, 0, false, 0))
                .refused("end", OUTSIDE, b -> b.end(1)).refused("count", OUTSIDE, b -> b.count(12))
                .refused("process", STATE, b -> b.process(0, 0)).refused("memory", NONE, b -> b.memory(0))
                .refused("stored", NONE, b -> b.stored(9, 9, 9)).refused("event", OUTSIDE, b -> b.event(0, 4))
                .finish("refused when off");
    }

    /** A busy board: upcalls wait, a write, a read, an alarm and samples are under way, a value is stored. */
    private static Rig busy() {
        App app = App.plain(256).storeNumber(1).code(new Code().subscribe(3, 0, "f", 0).command(3, 1, 0, 0)
                .allowRead(5, 0, RAM, 8).command(5, 2, 3, 8).allowRead(1, 1, RAM, 30).command(1, 1, 30, 0)
                .allowWrite(1, 1, RAM + 64, 9).command(1, 2, 9, 0).command(0, 5, 300, 0).command(6, 2, 1, 90)
                .command(2, 1, 2, 0).label("f").addi(5, 5, 1).j("f"));
        Rig rig = Rig.with(app, App.of(64, new Code().label("x").addi(6, 6, 1).j("x")), App.of(64, new Code().ebreak()));
        rig.board.boot(2, 7, 0, false, 4);
        rig.run(250);
        rig.board.press(0, true);
        rig.board.type(65);
        rig.board.hold(1, true);
        rig.run(30);
        return rig;
    }

    private static void refusedWhenOn() {
        Twins t = new Twins(EdgesToldTest::busy);
        t.refused("boot", STATE, b -> b.boot(0, 1, 0, false, 0)).refused("burn", STATE, b -> b.burn(0x10000))
                .refused("run 0", OUTSIDE, b -> b.run(0)).refused("run 20001", OUTSIDE, b -> b.run(20001))
                .refused("type 256", OUTSIDE, b -> b.type(256)).refused("type -1", OUTSIDE, b -> b.type(-1))
                .refused("press 4", OUTSIDE, b -> b.press(4, true)).refused("press -1", OUTSIDE, b -> b.press(-1, true))
                .refused("press, was so", 0, b -> b.press(0, true)).refused("level 2", OUTSIDE, b -> b.level(2, 9))
                .refused("level -1", OUTSIDE, b -> b.level(-1, 9)).refused("cut", OUTSIDE, b -> b.cut(10001))
                .refused("hold 3", NONE, b -> b.hold(3, true)).refused("hold -1", NONE, b -> b.hold(-1, true))
                .refused("hold, was so", 0, b -> b.hold(1, true)).refused("restart 3", NONE, b -> b.restart(3))
                .refused("restart -1", NONE, b -> b.restart(-1)).refused("end", OUTSIDE, b -> b.end(1))
                .refused("process", NONE, b -> b.process(3, 0)).refused("process", OUTSIDE, b -> b.process(0, 15))
                .refused("register", NONE, b -> b.register(0, 32)).refused("entry", OUTSIDE, b -> b.entry(0, 0, 2))
                .refused("upcall", OUTSIDE, b -> b.upcall(0, 0, 5)).refused("grant", NONE, b -> b.grant(0, 7))
                .refused("stored", NONE, b -> b.stored(1, 4, -1)).refused("out", NONE, b -> b.out(4000))
                .finish("refused when on");
    }

    private static void auditIsZero() {
        Check.due("new", new GrantBoard().audit(), 0);
        Rig rig = busy();
        for (int i = 0; i < 30; i++) {
            Check.due("audit", rig.board.audit(), 0);
            rig.run(11);
        }
        for (int value : FAR) {
            rig.board.press(value, true);
            rig.board.restart(value);
            Check.due("audit", rig.board.audit(), 0);
        }
    }
}

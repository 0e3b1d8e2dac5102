/** Part 5: system calls, grants and upcalls. */
public final class CallsTest {
    private static final int RAM = 0x20000;
    private static final int CONTROL = RAM + 1024 - 64;
    private static final int A0 = Code.A0, A1 = Code.A1, T0 = Code.T0;

    public static void main(String[] args) {
        unknownCalls();
        yieldNow();
        yieldWait();
        yieldFor();
        yieldForIsChoosy();
        subscribe();
        subscribeDropsWaiting();
        commands();
        permissions();
        allow();
        memoryBreak();
        memoryBreakAndBuffers();
        memoryAsked();
        grants();
        grantsWithoutRoom();
        grantsAreCleared();
        tenUpcalls();
        exit();
        overMeansNothingUnderWay();
        faultAndRestart();
        Check.finish();
    }

    private static Rig ran(Code c, int n) {
        return Rig.running(256, c.spin()).run(n);
    }

    /** One call, with all its registers told afterwards. */
    private static void answer(String what, int call, int a0, int a1, int a2, int a3, Integer... want) {
        Rig rig = Rig.running(256, new Code().call(call, a0, a1, a2, a3).spin()).run(16);
        rig.state(what, 0, 1);
        for (int i = 0; i < want.length; i++) {
            if (want[i] != null) {
                Check.due(what + " a" + i, rig.board.register(0, 10 + i), want[i]);
            }
        }
        Check.due(what + " audit", rig.board.audit(), 0);
    }

    private static void unknownCalls() {
        answer("call 7", 7, 1, 2, 3, 4, 0, 10, 3, 4);
        answer("call -1", -1, 1, 2, 3, 4, 0, 10, 3, 4);
        answer("yield 3", 0, 3, 2, 3, 4, 0, 10, 3, 4);
        answer("yield -1", 0, -1, 2, 3, 4, 0, 10, 3, 4);
        answer("exit 2", 6, 2, 2, 3, 4, 0, 10, 3, 4);
        answer("memory 7", 5, 7, 2, 3, 4, 0, 10, 3, 4);
        Rig rig = ran(new Code().call(77, 1, 2, 3, 4), 6);
        Check.due("the pc is behind", rig.board.process(0, 1), 0x10020 + 24);
        rig.event("a call", 0, 0, 0, 77);
        Check.due("its time", rig.board.event(0, 0), 6);
        Check.due("calls", rig.board.count(5), 1);
    }

    /** Sampler command 1 gives an upcall at once: the easiest way to make one wait. */
    private static Code sampling(Code c, int channel) {
        return c.command(6, 1, channel, 0);
    }

    private static void yieldNow() {
        answer("yield 0 without any", 0, 0, RAM + 8, 33, 44, 0, RAM + 8, 33, 44);
        Code c = new Code().li(T0, 9).sw(A1, T0, 8).yieldNow(RAM + 8).keep(RAM + 32).subscribe(6, 0, "f", 1234);
        sampling(c, 0).yieldNow(RAM + 9).label("after").spin().label("f").keep(RAM + 64).mv(20, 1).spin();
        Rig rig = Rig.running(256, c);
        rig.board.level(0, 55);
        rig.run(60);
        Check.due("byte 0 without, 1 with, others stay", rig.word(RAM + 8), 0x0100);
        rig.kept("no answers", RAM + 32, 0, RAM + 8, 0, 0);
        rig.kept("the upcall's numbers and data", RAM + 64, 0, 55, 1, 1234);
        Check.due("x1 is the pc", rig.board.register(0, 20), 0x10020 + c.at("after"));
        Check.due("none waits", rig.board.process(0, 9), 0);
        Check.due("run", rig.board.count(6), 1);
        rig.event("run", 0, 0, 1, 96);
        rig.event("the call was before", 1, 0, 0, 0);
        c = new Code().subscribe(1, 2, "f", 0).allowWrite(1, 1, RAM, 1).command(1, 2, 1, 0).command(1, 3, 0, 0)
                .yieldWait().spin().label("f").spin();
        rig = Rig.running(256, c).run(40);
        rig.event("one that waited, with its number", 0, 0, 1, 18);

        c = new Code().subscribe(6, 0, "f", 0);
        sampling(c, 1).yieldNow(CONTROL).spin().label("f").spin();
        rig = Rig.running(256, c).run(40);
        Check.due("no byte outside of accessible RAM", rig.board.memory(CONTROL), 0);
        Check.due("run all the same", rig.board.count(6), 1);
        c = new Code().yieldNow(RAM + 256).spin();
        rig = Rig.running(256, c).run(10);
        rig.state("a byte at the break is not written", 0, 1);
        c = new Code().li(T0, 7).sb(A1, T0, 255).yieldNow(RAM + 255).spin();
        rig = Rig.running(256, c).run(10);
        Check.due("the last byte is", rig.board.memory(RAM + 255), 0);
    }

    private static void yieldWait() {
        Code c = new Code().subscribe(3, 0, "f", 5).command(3, 1, 2, 0).label("again").yieldWait().label("behind")
                .j("again").label("f").keep(RAM + 64).ret();
        Rig rig = Rig.running(256, c).run(40);
        rig.state("waits", 0, 2);
        Check.due("pc behind", rig.board.process(0, 1), 0x10020 + c.at("behind"));
        Check.due("press", rig.board.press(2, true), 1);
        rig.state("ready at once", 0, 1);
        Check.due("in its function", rig.board.process(0, 1), 0x10020 + c.at("f"));
        Check.due("link", rig.board.register(0, 1), 0x10020 + c.at("behind"));
        Check.due("a3 is the data", rig.board.register(0, 13), 5);
        rig.event("run", 0, 0, 1, 48);
        Check.due("its time", rig.board.event(0, 0), 40);
        rig.board.press(2, false);
        Check.due("the next one waits", rig.board.process(0, 9), 1);
        Check.due("its driver", rig.board.upcall(0, 0, 0), 3);
        rig.run(30);
        rig.state("waits again", 0, 2);
        rig.kept("both were run", RAM + 64, 2, 0, 0, 5);
        Check.due("two", rig.board.count(6), 2);
    }

    private static void yieldFor() {
        Code c = new Code();
        sampling(c, 1).keep(RAM).li(A0, 2).li(A1, 6).li(Code.A2, 0).li(Code.A3, 99).li(Code.A4, 0).ecall();
        Rig rig = Rig.running(256, c.spin()).run(40);
        rig.state("not subscribed: the upcall did not wait for it", 0, 3);
        c = new Code().command(6, 2, 1, 100).li(A0, 2).li(A1, 6).li(Code.A2, 0).li(Code.A3, 99).li(Code.A4, 0).ecall()
                .label("on").spin();
        rig = Rig.running(256, c);
        rig.board.level(1, -8);
        rig.run(40);
        rig.state("waits for it", 0, 3);
        Check.due("no grant is made by waiting", rig.board.process(0, 10), 1);
        rig.run(65);
        rig.state("still", 0, 3);
        rig.run(1);
        rig.state("given", 0, 1);
        Check.due("a0", rig.board.register(0, 10), 1);
        Check.due("a1", rig.board.register(0, 11), -8);
        Check.due("a2", rig.board.register(0, 12), 0);
        Check.due("a3 stays", rig.board.register(0, 13), 99);
        Check.due("x1 stays", rig.board.register(0, 1), 0);
        Check.due("counted", rig.board.count(6), 1);
        rig.event("given", 0, 0, 1, 96);
        rig = Rig.running(256, new Code().yieldFor(99, -1).spin()).run(10);
        rig.state("for a driver that is none", 0, 3);
    }

    private static void yieldForIsChoosy() {
        Code c = new Code().subscribe(6, 0, "f", 0).subscribe(3, 0, "f", 0).command(3, 1, 0, 0);
        sampling(c, 1);
        sampling(c, 0).label("x").j("y").nop().label("y").yieldFor(3, 0).keep(RAM).yieldFor(6, 0).keep(RAM + 16).spin()
                .label("f").spin();
        Rig rig = Rig.running(256, c).run(40);
        rig.state("waits for the button", 0, 3);
        Check.due("two wait besides", rig.board.process(0, 9), 2);
        rig.board.press(1, true);
        rig.state("a button that it does not hear", 0, 3);
        rig.board.press(0, true);
        rig.state("the one it hears", 0, 1);
        rig.run(40);
        rig.kept("given", RAM, 0, 1, 0);
        rig.kept("the first that waited", RAM + 16, 1, 0, 1);
        Check.due("one is left", rig.board.process(0, 9), 1);
        Check.due("the later one", rig.board.upcall(0, 0, 2), 0);

        c = new Code().subscribe(6, 0, "f", 0).subscribe(3, 0, "f", 0).command(3, 1, 0, 0);
        sampling(c, 1).yieldFor(3, 0).spin().label("f").spin();
        rig = Rig.running(256, c).run(40);
        Check.due("one waits", rig.board.process(0, 9), 1);
        c = new Code().subscribe(0, 0, "f", 0).command(0, 5, 60, 0).yieldFor(3, 0).spin().label("f").spin();
        rig = Rig.running(256, c).run(200);
        rig.state("another upcall does not end it", 0, 3);
        Check.due("it waits in the row", rig.board.process(0, 9), 1);
    }

    private static void subscribe() {
        answer("no driver 9", 1, 9, 0, 0, 44, 2, 11, 0, 44);
        answer("no driver -1", 1, -1, 0, 3, 44, 2, 11, 3, 44);
        answer("lamps have none", 1, 2, 0, 0, 44, 2, 6, 0, 44);
        answer("sums have none", 1, 8, 0, 0, 44, 2, 6, 0, 44);
        answer("number 1 of alarm", 1, 0, 1, 0, 44, 2, 6, 0, 44);
        answer("number -1", 1, 0, -1, 0, 44, 2, 6, 0, 44);
        answer("console has 3", 1, 1, 2, 0, 44, 130, 0, 0, 44);
        answer("not 4", 1, 1, 3, 0, 44, 2, 6, 0, 44);
        answer("function in RAM", 1, 0, 0, RAM, 44, 2, 6, RAM, 44);
        answer("function below the app", 1, 0, 0, 0xFFFE, 44, 2, 6, 0xFFFE, 44);
        answer("the app's first address", 1, 0, 0, 0x10000, 44, 130, 0, 0, 44);
        answer("odd", 1, 0, 0, 0x10001, 44, 2, 6, 0x10001, 44);
        answer("not a multiple of 4", 1, 0, 0, 0x10002, 44, 130, 0, 0, 44);
        answer("behind the app", 1, 0, 0, 0x10100, 44, 2, 6, 0x10100, 44);
        Code c = new Code().call(1, 0, 0, 0x10000, 55).call(1, 0, 0, 0, 66).keep(RAM).call(1, 0, 0, 0x10004, 77)
                .keep(RAM + 16);
        Rig rig = ran(c, 60);
        rig.kept("as they were", RAM, 130, 0x10000, 55, 66);
        rig.kept("as they were", RAM + 16, 130, 0, 66, 77);
        Check.due("in the grant", rig.word(rig.board.grant(0, 0) + 8), 0x10004);
        Check.due("in the grant", rig.word(rig.board.grant(0, 0) + 12), 77);
    }

    private static void subscribeDropsWaiting() {
        Code c = new Code().subscribe(6, 0, "f", 0).subscribe(3, 0, "f", 0).command(3, 1, 0, 0).command(3, 1, 1, 0);
        sampling(c, 0);
        c.label("hold").yieldFor(0, 0);
        c.subscribe(6, 0, "f", 9).spin().label("f").spin();
        Rig rig = Rig.running(256, c).run(60);
        rig.board.press(0, true);
        rig.board.press(1, true);
        Check.due("three wait", rig.board.process(0, 9), 3);
        Check.due("first", rig.board.upcall(0, 0, 0), 6);
        Check.due("second", rig.board.upcall(0, 1, 0), 3);
        Check.due("third", rig.board.upcall(0, 2, 2), 1);

        c = new Code().subscribe(6, 0, "f", 0).subscribe(4, 0, "f", 0);
        sampling(c, 0).command(4, 1, 0, 0);
        sampling(c, 1).subscribe(6, 0, "f", 9).spin().label("f").spin();
        rig = Rig.running(256, c).run(60);
        Check.due("only the other driver's is left", rig.board.process(0, 9), 1);
        Check.due("it", rig.board.upcall(0, 0, 0), 4);
        Check.due("nothing is counted as dropped", rig.board.count(9), 0);
        c = new Code().subscribe(6, 0, "f", 0);
        sampling(c, 0).call(1, 6, 0, 0, 0);
        sampling(c, 0).spin().label("f").spin();
        rig = Rig.running(256, c).run(60);
        Check.due("a function of 0 hears nothing", rig.board.process(0, 9), 0);
    }

    private static void commands() {
        answer("no driver", 2, 9, 0, 3, 4, 0, 11, 3, 4);
        answer("no driver -1", 2, -1, 1, 3, 4, 0, 11, 3, 4);
        int[] zeros = {0, 0, 4, 4, 0, 0, 2, 0, 0};
        for (int d = 0; d < 9; d++) {
            if (zeros[d] == 0) {
                answer("command 0 of " + d, 2, d, 0, 3, 4, 128, 0, 3, 4);
            } else {
                answer("command 0 of " + d, 2, d, 0, 3, 4, 129, zeros[d], 3, 4);
            }
        }
        int[][] none = {{4, 7, 32, 33, -1}, {4, 32}, {4, 0x80000001}, {4, 35}, {2, 33}, {1, 2, 3, 4}, {4}, {4}, {2}};
        for (int d = 0; d < 9; d++) {
            for (int command : none[d]) {
                answer("no command " + command + " of " + d, 2, d, command, 3, 4, 0, 10, 3, 4);
            }
        }
        Rig rig = ran(new Code().command(0, 0, 0, 0).command(0, 4, 0, 0).command(2, 1, 0, 0), 30);
        Check.due("no grant for command 0, for none, for lamps", rig.board.process(0, 10), 0);
        rig = ran(new Code().command(3, 1, 9, 0), 10);
        Check.due("FAIL 6 is behind the grant", rig.board.process(0, 10), 1);
    }

    private static void permitted(String what, App app, int driver, int command, Integer... want) {
        Rig rig = Rig.running(app.code(new Code().command(driver, command, 0, 0).spin())).run(10);
        for (int i = 0; i < want.length; i++) {
            Check.due(what + " a" + i, rig.board.register(0, 10 + i), want[i]);
        }
    }

    private static void permissions() {
        permitted("has it", App.plain(64).permissions(0, 1 << 1 | 1 << 4), 0, 1, 129, 1000);
        permitted("has it not", App.plain(64).permissions(0, 1 << 1), 0, 2, 0, 11);
        permitted("ahead of FAIL 10", App.plain(64).permissions(0, 1 << 1), 0, 4, 0, 11);
        permitted("FAIL 10 behind it", App.plain(64).permissions(0, 1 << 4), 0, 4, 0, 10);
        permitted("command 0 always", App.plain(64).permissions(3, 1 << 1), 0, 0, 128);
        permitted("another driver", App.plain(64).permissions(3, -1), 0, 1, 0, 11);
        permitted("the second pair", App.plain(64).permissions(3, -1, 0, 2), 0, 1, 129, 1000);
        permitted("two pairs of one driver", App.plain(64).permissions(0, 4, 0, 2), 0, 1, 129, 1000);
        permitted("32 is none", App.plain(64).permissions(0, -1), 0, 32, 0, 11);
        permitted("from 32 on none", App.plain(64).permissions(0, -1), 0, 33, 0, 11);
        permitted("without PERMISSIONS", App.plain(64), 0, 33, 0, 10);
        permitted("bit 31", App.plain(64).permissions(0, -1), 0, 31, 0, 10);
        permitted("the first 8 counts", App.plain(64).permissions(0, 4).permissions(0, 2), 0, 1, 0, 11);
        Rig rig = Rig.running(App.plain(64).permissions(3, 2).code(
                new Code().call(1, 0, 0, 0x10000, 0).keep(RAM).spin())).run(20);
        rig.kept("subscribing needs none", RAM, 130);
    }

    private static void allow() {
        answer("no driver", 3, 9, 0, RAM, 4, 2, 11, RAM, 4);
        answer("no driver", 4, -1, 0, RAM, 4, 2, 11, RAM, 4);
        answer("no buffer", 3, 0, 0, RAM, 4, 2, 6, RAM, 4);
        answer("no buffer", 4, 2, 0, RAM, 4, 2, 6, RAM, 4);
        answer("no buffer of lamps", 3, 2, 0, RAM, 4, 2, 6, RAM, 4);
        answer("no buffer of sums for writing", 3, 8, 0, RAM, 4, 2, 6, RAM, 4);
        answer("no buffer of the sampler", 4, 6, 0, RAM, 4, 2, 6, RAM, 4);
        answer("no buffer 2", 3, 1, 2, RAM, 4, 2, 6, RAM, 4);
        answer("no buffer -1", 4, 1, -1, RAM, 4, 2, 6, RAM, 4);
        answer("random has none for reading", 4, 4, 0, RAM, 4, 2, 6, RAM, 4);
        answer("all of RAM", 3, 1, 1, RAM, 256, 130, 0, 0, 256);
        answer("one more", 3, 1, 1, RAM, 257, 2, 6, RAM, 257);
        answer("one before", 3, 1, 1, RAM - 1, 2, 2, 6, RAM - 1, 2);
        answer("the last byte", 4, 1, 1, RAM + 255, 1, 130, 0, 0, 1);
        answer("at the break", 4, 1, 1, RAM + 256, 1, 2, 6, RAM + 256, 1);
        answer("size 0 anywhere", 3, 1, 1, -1, 0, 130, 0, 0, 0);
        answer("a size with a sign", 3, 1, 1, RAM, -1, 2, 6, RAM, -1);
        answer("wrapping", 3, 1, 1, -4, RAM + 8, 2, 6, -4, RAM + 8);
        answer("the app for reading", 4, 1, 1, 0x10000, 16, 130, 0, 0, 16);
        answer("the app for writing", 3, 1, 1, 0x10000, 16, 2, 6, 0x10000, 16);
        answer("beyond the app", 4, 1, 1, 0x10000, 4096, 2, 6, 0x10000, 4096);
        answer("before the app", 4, 1, 1, 0xFFFF, 2, 2, 6, 0xFFFF, 2);
        Code c = new Code().allowRead(1, 0, RAM + 1, 2).allowRead(1, 1, RAM + 3, 4).allowWrite(1, 0, RAM + 5, 6)
                .allowWrite(1, 1, RAM + 7, 8).allowWrite(1, 1, 9, 0).keep(RAM).allowRead(1, 0, RAM, 0).keep(RAM + 16);
        Rig rig = ran(c, 100);
        int g = rig.board.grant(0, 1);
        int[] want = {1, 0, 0, 0, 0, 0, 0, 0, RAM, 0, RAM + 3, 4, RAM + 5, 6, 9, 0, 0, 0, 0, 0};
        for (int i = 0; i < want.length; i++) {
            Check.due("grant word " + i, rig.word(g + 4 * i), want[i]);
        }
        Check.due("the grant's size", g + 4 * want.length, CONTROL);
        rig.kept("as it was for writing", RAM, 130, RAM + 7, 8, 0);
        rig.kept("as it was for reading", RAM + 16, 130, RAM + 1, 2, 0);
    }

    private static void breakIs(String what, int how, int wanted, int code, Integer a1, int want) {
        Rig rig = ran(new Code().call(5, how, wanted, 0, 0), 10);
        Check.due(what, rig.board.register(0, 10), code);
        if (a1 != null) {
            Check.due(what + " a1", rig.board.register(0, 11), a1);
        }
        Check.due(what + " break", rig.board.process(0, 6), want);
        Check.due(what + " in control", rig.word(CONTROL + 8), want);
        Check.due(what + " audit", rig.board.audit(), 0);
    }

    private static void memoryBreak() {
        int first = RAM + 256;
        breakIs("up", 0, RAM + 300, 128, RAM + 300, RAM + 300);
        breakIs("rounded", 0, RAM + 301, 128, null, RAM + 304);
        breakIs("up to lowest", 0, CONTROL, 128, null, CONTROL);
        breakIs("rounded to lowest", 0, CONTROL - 3, 128, null, CONTROL);
        breakIs("above", 0, CONTROL + 1, 0, 9, first);
        breakIs("down to nothing", 0, RAM, 128, null, RAM);
        breakIs("rounded to nothing", 0, RAM - 3, 128, null, RAM);
        breakIs("below", 0, RAM - 4, 0, 6, first);
        breakIs("0", 0, 0, 0, 6, first);
        breakIs("all ones do not wrap", 0, -1, 0, 9, first);
        breakIs("by 4", 1, 4, 129, first, RAM + 260);
        breakIs("by 1", 1, 1, 129, first, RAM + 260);
        breakIs("by 0", 1, 0, 129, first, first);
        breakIs("by -1", 1, -1, 129, first, first);
        breakIs("by -5", 1, -5, 129, first, RAM + 252);
        breakIs("by all", 1, -256, 129, first, RAM);
        breakIs("by more", 1, -260, 0, 6, first);
        breakIs("by the most", 1, 0x7FFFFFFF, 0, 9, first);
        breakIs("by the least", 1, 0x80000000, 0, 6, first);
        Code c = new Code().call(5, 1, 64, 0, 0).li(T0, RAM + 316).li(Code.T1, 5).sw(T0, Code.T1, 0)
                .call(5, 1, -64, 0, 0).call(5, 1, 64, 0, 0).lw(20, T0, 0).call(5, 1, -4, 0, 0).lw(21, T0, 0);
        Rig rig = ran(c, 60);
        Check.due("what comes to be accessible is as it is", rig.board.register(0, 20), 5);
        rig.state("what is not any more faults", 0, 5);
    }

    private static void memoryBreakAndBuffers() {
        Code c = new Code().allowRead(1, 0, RAM + 101, 10).call(5, 0, RAM + 108, 0, 0).keep(RAM)
                .call(5, 0, RAM + 109, 0, 0).keep(RAM + 16).allowRead(1, 0, RAM + 101, 0).call(5, 0, RAM + 64, 0, 0)
                .keep(RAM + 32);
        Rig rig = ran(c, 100);
        rig.kept("below a buffer's end", RAM, 0, 6);
        rig.kept("rounded it is not", RAM + 16, 128);
        rig.kept("with size 0", RAM + 32, 128);
        c = new Code().allowWrite(7, 0, RAM + 200, 4).allowReadLabel(1, 1, "text", 4).call(5, 1, -56, 0, 0).keep(RAM)
                .call(5, 1, -52, 0, 0).keep(RAM + 16).spin().label("text").word(0);
        rig = ran(c, 100);
        rig.kept("for writing", RAM, 0, 6);
        rig.kept("one in the app does not count", RAM + 16, 129, RAM + 256);
        Check.due("audit", rig.board.audit(), 0);
        c = new Code().allowRead(1, 0, RAM, 1).call(5, 0, RAM, 0, 0).keep(RAM + 16).call(5, 0, RAM + 1, 0, 0);
        rig = ran(c, 40);
        rig.kept("one byte at the beginning", RAM + 16, 0, 6);
        Check.due("above it", rig.board.process(0, 6), RAM + 4);
    }

    private static void memoryAsked() {
        Rig rig = ran(new Code().command(3, 1, 0, 0), 8);
        int end = 0x10000 + rig.board.process(0, 3);
        int[] want = {0x10000, end, RAM, RAM + 256, CONTROL};
        for (int how = 2; how <= 6; how++) {
            Rig r = ran(new Code().call(5, how, 9, 8, 7), 10);
            Check.due("memory " + how, r.board.register(0, 10), 129);
            Check.due("memory " + how, r.board.register(0, 11), how == 3 ? 0x10000 + 16 + 16 + 28 : want[how - 2]);
            Check.due("a2 stays", r.board.register(0, 12), 8);
        }
        rig = ran(new Code().command(3, 1, 0, 0).call(5, 6, 0, 0, 0), 15);
        Check.due("lowest goes down with grants", rig.board.register(0, 11), CONTROL - 20);
    }

    private static void grants() {
        int[] sizes = {28, 80, 0, 20, 24, 32, 28, 36, 16};
        int[] commands = {1, 3, 1, 3, 1, 1, 3, 2, 1};
        for (int d = 0; d < 9; d++) {
            Rig rig = Rig.running(App.plain(64).storeNumber(1).code(new Code().command(d, commands[d], 0, 0).spin()));
            Check.due("no grant before", rig.board.grant(0, d), GrantBoard.NONE);
            rig.run(10);
            Check.due("grant of " + d, rig.board.grant(0, d), d == 2 ? GrantBoard.NONE : CONTROL - sizes[d]);
            Check.due("lowest", rig.board.process(0, 7), CONTROL - sizes[d]);
            Check.due("how many", rig.board.process(0, 10), d == 2 ? 0 : 1);
            Check.due("audit", rig.board.audit(), 0);
        }
        Rig rig = ran(new Code().command(3, 1, 0, 0).call(1, 0, 0, 0, 0).allowRead(8, 0, RAM, 8).command(3, 1, 1, 0), 40);
        int buttons = CONTROL - 20;
        int alarm = buttons - 28;
        int sums = alarm - 16;
        Check.due("buttons", rig.board.grant(0, 3), buttons);
        Check.due("alarm", rig.board.grant(0, 0), alarm);
        Check.due("sums", rig.board.grant(0, 8), sums);
        Check.due("lowest", rig.board.process(0, 7), sums);
        Check.due("three", rig.board.process(0, 10), 3);
        Check.due("number", rig.word(buttons), 3);
        Check.due("none above", rig.word(buttons + 4), 0);
        Check.due("own word", rig.word(buttons + 16), 3);
        Check.due("number", rig.word(alarm), 0);
        Check.due("above", rig.word(alarm + 4), buttons);
        Check.due("number", rig.word(sums), 8);
        Check.due("above", rig.word(sums + 4), alarm);
        Check.due("buffer", rig.word(sums + 8), RAM);
        Check.due("size", rig.word(sums + 12), 8);
        Check.due("audit", rig.board.audit(), 0);
    }

    private static void grantsWithoutRoom() {
        Code c = new Code().call(5, 0, CONTROL - 16, 0, 0).call(1, 3, 0, 0x10000, 7).keep(RAM).command(3, 3, 0, 0)
                .keep(RAM + 16).allowWrite(4, 0, RAM, 4).keep(RAM + 32).command(8, 1, 0, 0).keep(RAM + 48)
                .command(3, 0, 0, 0).keep(RAM + 64).command(3, 9, 0, 0).keep(RAM + 80).call(1, 3, 1, 0x10000, 7)
                .keep(RAM + 96).command(2, 3, 3, 0).keep(RAM + 112);
        Rig rig = ran(c, 150);
        rig.kept("subscribe", RAM, 2, 9, 0x10000, 7);
        rig.kept("command", RAM + 16, 0, 9);
        rig.kept("allow", RAM + 32, 2, 9, RAM, 4);
        rig.kept("one that just fits", RAM + 48, 129, 0);
        rig.kept("command 0 needs none", RAM + 64, 129, 4);
        rig.kept("10 before 9", RAM + 80, 0, 10);
        rig.kept("6 before 9", RAM + 96, 2, 6, 0x10000, 7);
        rig.kept("lamps need none", RAM + 112, 128);
        Check.due("one grant", rig.board.process(0, 10), 1);
        Check.due("lowest is the break", rig.board.process(0, 7), rig.board.process(0, 6));
        Check.due("audit", rig.board.audit(), 0);
    }

    private static void grantsAreCleared() {
        Code c = new Code().call(5, 0, CONTROL, 0, 0).li(T0, CONTROL - 20).li(Code.T1, -1).sw(T0, Code.T1, 0)
                .sw(T0, Code.T1, 4).sw(T0, Code.T1, 8).sw(T0, Code.T1, 12).sw(T0, Code.T1, 16)
                .call(5, 0, RAM + 256, 0, 0).command(3, 3, 0, 0);
        Rig rig = ran(c, 60);
        int g = rig.board.grant(0, 3);
        Check.due("grant", g, CONTROL - 20);
        int[] want = {3, 0, 0, 0, 0};
        for (int i = 0; i < 5; i++) {
            Check.due("word " + i, rig.word(g + 4 * i), want[i]);
        }
    }

    private static void tenUpcalls() {
        Code c = new Code().subscribe(3, 0, "f", 0).command(3, 1, 0, 0).command(3, 1, 3, 0).spin().label("f").spin();
        Rig rig = Rig.running(256, c).run(40);
        for (int i = 0; i < 12; i++) {
            rig.board.press(i == 0 ? 3 : 0, i % 2 == 1 || i == 0);
        }
        Check.due("ten wait", rig.board.process(0, 9), 10);
        Check.due("two are dropped", rig.board.count(9), 2);
        Check.due("none is run", rig.board.count(6), 0);
        rig.event("dropped", 0, 0, 5, 48);
        Check.due("in control: wait", rig.word(CONTROL + 20), 10);
        Check.due("in control: dropped", rig.word(CONTROL + 40), 2);
        Check.due("the first", rig.board.upcall(0, 0, 2), 3);
        Check.due("the last", rig.board.upcall(0, 9, 3), 1);
        rig.board.restart(0);
        Check.due("none waits", rig.board.process(0, 9), 0);
        Check.due("in control: wait", rig.word(CONTROL + 20), 0);
        Check.due("in control: dropped stays", rig.word(CONTROL + 40), 2);
    }

    private static void exit() {
        Rig rig = ran(new Code().exit(0, -77), 10);
        rig.state("ended", 0, 4);
        Check.due("code", rig.board.process(0, 11), -77);
        rig.event("ended", 0, 0, 4, -77);
        rig.event("by a call", 1, 0, 0, 6);
        Check.due("it does nothing any more", rig.board.count(10), 4);
        Check.due("no restart", rig.board.count(8), 0);
        rig.board.restart(0);
        Check.due("code is 0 then", rig.board.process(0, 11), 0);

        Code c = new Code().li(T0, 3).sw(A1, T0, 0).li(20, 4).command(3, 1, 0, 0).exit(1, 5);
        rig = Rig.with(App.of(256, c));
        rig.board.boot(0, 1000, 0, false, 0);
        rig.run(13);
        rig.state("started again", 0, 1);
        Check.due("ram is 0", rig.word(RAM), 0);
        Check.due("register is 0", rig.board.register(0, 20), 0);
        Check.due("x10", rig.board.register(0, 10), 0x10020);
        Check.due("pc", rig.board.process(0, 1), 0x10020);
        Check.due("no grants", rig.board.process(0, 10), 0);
        Check.due("no grant", rig.board.grant(0, 3), GrantBoard.NONE);
        Check.due("lowest", rig.board.process(0, 7), CONTROL);
        Check.due("grant's words are 0", rig.word(CONTROL - 4), 0);
        Check.due("restarts", rig.board.process(0, 8), 1);
        Check.due("restarts in all", rig.board.count(8), 1);
        rig.event("again", 0, 0, 3, 1);
        rig.run(13);
        rig.event("again, no limit", 0, 0, 3, 2);
    }

    private static void overMeansNothingUnderWay() {
        for (int how = 0; how < 2; how++) {
            Code c = new Code().subscribe(0, 0, "f", 0).command(0, 5, 40, 0).subscribe(3, 0, "f", 0).command(3, 1, 1, 0);
            sampling(c, 0).subscribe(6, 0, "f", 0);
            sampling(c, 1).command(6, 2, 1, 7);
            if (how == 0) {
                c.exit(0, 1);
            } else {
                c.ebreak();
            }
            c.label("f").spin();
            Rig rig = Rig.running(256, c).run(200);
            rig.state("over", 0, 4 + how);
            Check.due("no upcall waits", rig.board.process(0, 9), 0);
            Check.due("grants stay", rig.board.process(0, 10), 3);
            Check.due("not armed", rig.word(rig.board.grant(0, 0) + 16), 0);
            Check.due("reference too", rig.word(rig.board.grant(0, 0) + 20), 0);
            Check.due("length too", rig.word(rig.board.grant(0, 0) + 24), 0);
            Check.due("hears none", rig.word(rig.board.grant(0, 3) + 16), 0);
            Check.due("samples none", rig.word(rig.board.grant(0, 6) + 16), 0);
            Check.due("due never", rig.word(rig.board.grant(0, 6) + 24), 0);
            Check.holds("subscription stays", rig.word(rig.board.grant(0, 0) + 8) != 0);
            rig.board.press(1, true);
            Check.due("nothing comes", rig.board.process(0, 9), 0);
            Check.due("nothing is dropped", rig.board.count(9), 0);
            Check.due("audit", rig.board.audit(), 0);
        }
    }

    private static void faultAndRestart() {
        Code c = new Code().li(T0, 5).sw(A1, T0, 4).lw(5, 0, 4);
        Rig rig = Rig.with(App.of(256, c));
        rig.board.boot(0, 10, 2, false, 0);
        rig.run(3);
        rig.state("started again", 0, 1);
        Check.due("restarts", rig.board.process(0, 8), 1);
        rig.event("again", 0, 0, 3, 1);
        rig.event("the fault before it", 1, 0, 2, 5);
        Check.due("ram is 0", rig.word(RAM + 4), 0);
        Check.due("control keeps the fault", rig.word(CONTROL + 24), 6);
        Check.due("its value", rig.word(CONTROL + 28), 4);
        Check.due("its pc", rig.word(CONTROL + 32), 0x10028);
        Check.due("restarts in control", rig.word(CONTROL + 16), 1);
        rig.run(6);
        rig.state("the limit is reached", 0, 5);
        Check.due("restarts", rig.board.process(0, 8), 2);
        Check.due("faults", rig.board.count(7), 3);
        Check.due("restarts in all", rig.board.count(8), 2);
        rig.event("the last event is a fault", 0, 0, 2, 5);
        Check.due("state in control", rig.word(CONTROL + 36), 5);
        Check.due("instructions", rig.board.count(10), 9);
        rig.run(5);
        Check.due("no more", rig.board.count(10), 9);
        Check.due("restart by the maker", rig.board.restart(0), 1);
        Check.due("it counts", rig.board.process(0, 8), 3);
        rig.run(3);
        rig.state("beyond the limit", 0, 5);
        Check.due("as it was", rig.board.process(0, 8), 3);
    }
}

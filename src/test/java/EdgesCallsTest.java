/** Part 5: each FAIL in the order that is told, and the bounds of what system calls, grants and upcalls take. */
public final class EdgesCallsTest {
    private static final int APP = Talk.APP, APP_END = Talk.APP_END, RAM = Talk.RAM, F = Talk.FUNCTION;
    private static final int MIN = 0x80000000, MAX = 0x7FFFFFFF;
    private static final int BREAK = RAM + 256, CONTROL = RAM + 960;
    /** By drivers: subscriptions, buffers for reading, for writing. */
    private static final int[][] HAS = {
        {1, 0, 0}, {3, 2, 2}, {0, 0, 0}, {1, 0, 0}, {1, 0, 1}, {1, 1, 1}, {1, 0, 0}, {1, 1, 1}, {0, 1, 0}};

    public static void main(String[] args) {
        unknown();
        answersLeaveTheRest();
        yieldFlagByte();
        yieldFlagWithAnUpcall();
        yieldWaitsForTheFirst();
        yieldForNumbers();
        subscribeNumbers();
        subscribeFunctions();
        subscribeOrder();
        subscribeTakesBack();
        commandNumbers();
        commandOrder();
        permissionBits();
        allowBuffers();
        allowSizes();
        allowOrder();
        allowTakesBack();
        memoryBounds();
        memoryBuffers();
        memoryWithoutWrapping();
        exitCodes();
        tenUpcalls();
        dropsAreNoted();
        whoGetsNoUpcall();
        overForGood();
        refusedLeavesAll();
        Check.finish();
    }

    private static void unknown() {
        int[] calls = {7, 8, 15, 100, -1, MIN, MAX};
        for (int call : calls) {
            new Talk(256).ask("call " + call, call, 1, 2, 3, 4, 0, 10, 3, 4).go();
        }
        int[] yields = {3, 4, -1, MIN, MAX};
        for (int how : yields) {
            new Talk(256).ask("yield " + how, 0, how, 2, 3, 4, 0, 10, 3, 4).go().state("goes on", 0, 1);
        }
        int[] memories = {7, 8, -1, MIN, MAX};
        for (int how : memories) {
            new Talk(256).ask("memory " + how, 5, how, 2, 3, 4, 0, 10, 3, 4).go();
        }
        int[] exits = {2, 3, -1, MIN, MAX};
        for (int how : exits) {
            new Talk(256).ask("exit " + how, 6, how, 2, 3, 4, 0, 10, 3, 4).go().state("goes on", 0, 1);
        }
    }

    /** OK tells a0 alone, OK1 and FAIL a0 and a1, OK2 a0 .. a2; what is behind stays. */
    private static void answersLeaveTheRest() {
        new Talk(256).command("OK", 0, 0, 33, 44, 128, 0, 33, 44)
                .command("OK1", 0, 1, 33, 44, 129, 1000, 33, 44)
                .command("FAIL", 0, 3, 33, 44, 0, 3, 33, 44)
                .ask("OK2", 1, 0, 0, F, 44, 130, 0, 0, 44)
                .ask("FAIL2", 1, 0, 9, 33, 44, 2, 6, 33, 44)
                .ask("MEMORY 0", 5, 0, RAM + 64, 33, 44, 128, RAM + 64, 33, 44).go();
    }

    private static Code fill(Code c, int address) {
        return c.li(5, address).li(6, 9).sb(5, 6, 0);
    }

    /** The byte at a1, if it is accessible RAM, becomes 1 if one was run, else 0. */
    private static void yieldFlagByte() {
        int[] inside = {RAM, RAM + 1, RAM + 255};
        for (int at : inside) {
            Rig rig = new Talk(256).code(c -> fill(c, at)).ask("yield", 0, 0, at, 7, 8, 0, at, 7, 8).go();
            Check.due("byte at " + Integer.toHexString(at), rig.board.memory(at), 0);
        }
        int[] outside = {RAM - 1, BREAK, CONTROL, RAM + 1024, APP, F, 0, -1, MIN, MAX, RAM | MIN};
        for (int at : outside) {
            Talk talk = new Talk(256);
            Rig rig = Rig.with(talk.ask("yield", 0, 0, at, 7, 8, 0, at, 7, 8).app());
            rig.boot();
            int before = rig.board.memory(at);
            talk.play(rig);
            Check.due("byte at " + Integer.toHexString(at) + " stays", rig.board.memory(at), before);
            rig.state("no fault", 0, 1);
        }
        Rig rig = Rig.running(256, new Code().call(5, 0, RAM + 300, 0, 0).li(5, RAM + 256).li(6, 9).sb(5, 6, 0)
                .sb(5, 6, 43).call(5, 0, RAM + 260, 0, 0).yieldNow(RAM + 256).yieldNow(RAM + 299).spin()).run(80);
        Check.due("by the break as it is now", rig.board.memory(RAM + 256), 0);
        Check.due("beyond it", rig.board.memory(RAM + 299), 9);
    }

    private static void yieldFlagWithAnUpcall() {
        int[] at = {RAM, RAM + 255, BREAK, APP, 0};
        for (int flag : at) {
            Rig rig = new Talk(256).subscribe(6, 0).command("sample", 6, 1, 1, 0, 128).waiting("one", 1)
                    .ask("yield", 0, 0, flag, 7, 8, 1, 0, 1, 0).waiting("none", 0).go();
            boolean inside = flag >= RAM && flag < BREAK;
            Check.due("byte", rig.board.memory(flag), inside ? 1 : flag == BREAK ? 0 : flag == APP ? 2 : GrantBoard.NONE);
            Check.due("it goes to the function", rig.board.process(0, 1), F);
            Check.due("run", rig.board.count(6), 1);
        }
    }

    /** The first one is run; if none waits, it WAITS until one comes. */
    private static void yieldWaitsForTheFirst() {
        Talk talk = new Talk(256).ask("subscribe", 1, 6, 0, F, 77, 130).ask("subscribe", 1, 4, 0, F + 4, 88, 130)
                .command("random", 4, 1, 0, 0, 128).command("sample", 6, 1, 1, 0, 128).waiting("two", 2);
        Rig rig = talk.ask("yield 1", 0, 1, 0, 0, 0, 0, 0, 0, 88).waiting("one", 1).go();
        Check.due("its function", rig.board.process(0, 1), F + 4);
        Check.due("the other waits", rig.board.upcall(0, 0, 0), 6);
        rig = new Talk(256).ask("yield 1 without any", 0, 1, 5, 6, 7, 1, 5, 6, 7).go();
        rig.state("it waits", 0, 2);
        int pc = rig.board.process(0, 1);
        rig.run(100);
        Check.due("and does nothing", rig.board.process(0, 1), pc);
        rig.state("still", 0, 2);
    }

    /** The first one of driver a1 and number a2; whether it is subscribed or not. */
    private static void yieldForNumbers() {
        Talk both = new Talk(256).subscribe(6, 0).subscribe(1, 2).allowWrite(1, 1, RAM, 4)
                .command("sample 0", 6, 1, 0, 0, 128).command("read", 1, 2, 4, 0, 128).command("over", 1, 3, 0, 0, 128)
                .command("sample 1", 6, 1, 1, 0, 128).waiting("three", 3);
        both.ask("of console, number 2", 0, 2, 1, 2, 44, 8, 0, 0, 44).waiting("two are left", 2)
                .ask("the first sample", 0, 2, 6, 0, 44, 0, 0, 1, 44)
                .ask("the second", 0, 2, 6, 0, 44, 1, 0, 1, 44).waiting("none", 0).go();
        int[][] others = {{6, 1}, {1, 0}, {0, 0}, {9, 0}, {-1, -1}, {MIN, 0}, {6, MIN}};
        for (int[] pair : others) {
            Rig rig = new Talk(256).subscribe(6, 0).command("sample", 6, 1, 0, 0, 128)
                    .ask("for another", 0, 2, pair[0], pair[1], 44, 2, pair[0], pair[1], 44).waiting("it stays", 1).go();
            rig.state("waits for " + pair[0] + " " + pair[1], 0, 3);
        }
        Rig rig = new Talk(256).command("hears", 3, 1, 2, 0, 128).ask("not subscribed", 0, 2, 3, 0, 44, 2, 3, 0, 44).go();
        rig.board.press(2, true);
        rig.state("given", 0, 1);
        Check.due("its numbers", rig.board.register(0, 10), 2);
        Check.due("its numbers", rig.board.register(0, 11), 1);
        Check.due("a3 stays", rig.board.register(0, 13), 44);
        Check.due("x1 stays", rig.board.register(0, 1), 0);
        rig.event("given", 0, 0, 1, 48);
    }

    private static void subscribeNumbers() {
        for (int d = 0; d < 9; d++) {
            int n = HAS[d][0];
            int[] none = {n, n + 1, 31, -1, MIN, MAX};
            for (int number : none) {
                new Talk(256).ask("number " + number + " of " + d, 1, d, number, F, 5, 2, 6, F, 5).go();
            }
            for (int number = 0; number < n; number++) {
                Rig rig = new Talk(256).ask("number " + number + " of " + d, 1, d, number, F, 5, 130, 0, 0, 5).go();
                int at = rig.board.grant(0, d) + 8 + 8 * number;
                Check.due("function", rig.word(at), F);
                Check.due("data", rig.word(at + 4), 5);
            }
        }
        int[] drivers = {9, 10, -1, MIN, MAX};
        for (int d : drivers) {
            new Talk(256).ask("driver " + d, 1, d, 0, F, 5, 2, 11, F, 5).go();
        }
    }

    /** The function is neither 0 nor an even address in the app's region: 6. */
    private static void subscribeFunctions() {
        int[] sound = {0, APP, APP + 2, APP + 32, APP_END - 4, APP_END - 2};
        for (int f : sound) {
            new Talk(256).ask("function " + Integer.toHexString(f), 1, 0, 0, f, 5, 130, 0, 0, 5).go();
        }
        int[] wrong = {1, 2, APP + 1, APP - 2, APP - 1, APP_END, APP_END - 1, APP_END + 2, RAM, RAM + 2, -2, -1, MIN,
            APP | MIN, 0x1F000};
        for (int f : wrong) {
            new Talk(256).ask("function " + Integer.toHexString(f), 1, 0, 0, f, 5, 2, 6, f, 5).go();
        }
    }

    private static Talk crowded() {
        return new Talk(256).ask("break up to control", 5, 0, CONTROL, 0, 0, 128);
    }

    /** 11, then 6, then 9. */
    private static void subscribeOrder() {
        Rig rig = crowded().ask("all wrong", 1, 9, 9, 1, 5, 2, 11, 1, 5)
                .ask("number, function and memory", 1, 0, 1, 1, 5, 2, 6, 1, 5)
                .ask("number and memory", 1, 0, 1, F, 5, 2, 6, F, 5)
                .ask("function and memory", 1, 0, 0, F + 1, 5, 2, 6, F + 1, 5)
                .ask("memory alone", 1, 0, 0, F, 5, 2, 9, F, 5)
                .ask("memory alone, function 0", 1, 0, 0, 0, 5, 2, 9, 0, 5)
                .ask("memory again", 5, 1, -28, 0, 0, 129, CONTROL)
                .ask("now it is so", 1, 0, 0, F, 5, 130, 0, 0, 5).go();
        Check.due("one grant", rig.board.process(0, 10), 1);
    }

    /** Upcalls of that driver and number that wait go; function and data as they were. */
    private static void subscribeTakesBack() {
        new Talk(256).ask("first", 1, 6, 0, F, 5, 130, 0, 0, 5)
                .command("sample", 6, 1, 0, 0, 128).command("sample", 6, 1, 1, 0, 128).waiting("two", 2)
                .ask("one that is refused", 1, 6, 1, F, 5, 2, 6, F, 5).waiting("leaves them", 2)
                .ask("second", 1, 6, 0, 0, 7, 130, F, 5, 7).waiting("gone", 0)
                .command("sample", 6, 1, 0, 0, 128).waiting("a function of 0 hears nothing", 0)
                .ask("third", 1, 6, 0, F + 2, -1, 130, 0, 7, -1)
                .ask("fourth", 1, 6, 0, F, 5, 130, F + 2, -1, 5)
                .then(rig -> Check.due("none was dropped", rig.board.count(9), 0)).go();
        new Talk(256).subscribe(1, 1).subscribe(1, 2).subscribe(6, 0).allowWrite(1, 1, RAM, 1).allowRead(1, 1, RAM, 1)
                .command("sample", 6, 1, 0, 0, 128).command("read", 1, 2, 1, 0, 128).command("over", 1, 3, 0, 0, 128)
                .command("write", 1, 1, 1, 0, 128).then(rig -> {
                    rig.board.hold(0, true);
                    rig.run(8);
                    rig.board.hold(0, false);
                }).waiting("of three numbers", 3)
                .ask("number 1 of the console", 1, 1, 1, F, 5, 130).waiting("the others stay", 2)
                .then(rig -> Check.due("the sampler's", rig.board.upcall(0, 0, 0), 6))
                .then(rig -> Check.due("number 2", rig.board.upcall(0, 1, 1), 2))
                .ask("number 0", 1, 1, 0, F, 5, 130).waiting("the others stay", 2)
                .ask("number 2", 1, 1, 2, F, 5, 130).waiting("one stays", 1).go();
    }

    private static void commandNumbers() {
        String[] have = {"12356", "123", "123", "123", "1", "123", "123", "123", "1"};
        int[] numbers = {1, 2, 3, 4, 5, 6, 7, 8, 31, 32, 33, 34, 63, 65, -1, MIN, MIN + 1, MAX};
        for (int d = 0; d < 9; d++) {
            for (int c : numbers) {
                App app = App.plain(256).storeNumber(1);
                boolean has = c > 0 && c < 10 && have[d].indexOf('0' + c) >= 0;
                Talk talk = new Talk(256, app).command("command " + c + " of " + d, d, c, 0, 1);
                Rig rig = talk.go();
                boolean ten = rig.board.register(0, 10) == 0 && rig.board.register(0, 11) == 10;
                Check.due("command " + c + " of " + d + " is there", ten ? 0 : 1, has ? 1 : 0);
                Check.due("a grant is made", rig.board.process(0, 10), has && d != 2 ? 1 : 0);
            }
        }
        int[] drivers = {9, 10, -1, MIN, MAX};
        for (int d : drivers) {
            new Talk(256).command("driver " + d, d, 0, 3, 4, 0, 11, 3, 4).command("driver " + d, d, 1, 3, 4, 0, 11, 3, 4)
                    .go();
        }
    }

    /** FAIL 11, command 0, FAIL 10, FAIL 9, then as told. */
    private static void commandOrder() {
        crowded().command("no driver", 9, 99, 0, 0, 0, 11)
                .command("command 0 needs no grant", 3, 0, 0, 0, 129, 4)
                .command("command 0 of the store", 5, 0, 0, 0, 128)
                .command("10 before 9", 3, 4, 9, 0, 0, 10)
                .command("9 before 6", 3, 1, 9, 0, 0, 9)
                .command("9 before 3", 0, 3, 0, 0, 0, 9)
                .command("9 before 7", 1, 1, 0, 0, 0, 9)
                .command("9 before 11 of the post", 7, 1, 99, 0, 0, 9)
                .command("without a store number: 10 before 9", 5, 1, 0, 0, 0, 10)
                .command("lamps have no grant", 2, 1, 4, 0, 0, 6)
                .command("lamps", 2, 1, 3, 0, 128)
                .then(rig -> Check.due("no grant was made", rig.board.process(0, 10), 0)).go();
        new Talk(256).command("6 behind the grant", 3, 1, 9, 0, 0, 6)
                .then(rig -> Check.due("it was made", rig.board.process(0, 10), 1)).go();
    }

    private static void permitted(String what, int driver, int command, int error, int... pairs) {
        App app = App.plain(256).permissions(pairs);
        Integer code = error == 0 ? null : 0;
        Integer second = error == 0 ? null : error;
        Rig rig = new Talk(256, app).command(what, driver, command, 0, 0, code, second).go();
        if (error == 0) {
            Check.holds(what, rig.board.register(0, 10) >= 128);
        }
    }

    /** No pair of them has that driver and the bit 2^command (commands from 32 on: none). */
    private static void permissionBits() {
        for (int command = 1; command < 32; command++) {
            boolean has = "12356".indexOf('0' + command) >= 0 && command < 10 && command != 3;
            permitted("bit " + command, 0, command, command == 3 ? 3 : has ? 0 : 10, 0, 1 << command);
            permitted("all but bit " + command, 0, command, 11, 0, ~(1 << command));
        }
        permitted("32", 0, 32, 11, 0, -1);
        permitted("33, whose bit would be 1's", 0, 33, 11, 0, -1);
        permitted("all ones", 0, -1, 11, 0, -1);
        permitted("with a sign", 0, MIN, 11, 0, -1);
        permitted("command 0 needs none", 0, 0, 0, 5, 0);
        permitted("no driver at all", 9, 1, 11, 9, -1);
        permitted("no driver at all, command 0", 9, 0, 11, 9, -1);
        permitted("another driver's pair", 2, 1, 11, 3, -1);
        permitted("bits of two pairs", 2, 2, 0, 2, 2, 3, -1, 2, 4);
        permitted("a driver of the pair as without sign", 0, 1, 11, MIN, -1);
        Rig rig = new Talk(256, App.plain(256).permissions(2, 2)).ask("subscribing is free", 1, 0, 0, F, 0, 130)
                .ask("so is allowing", 4, 8, 0, RAM, 4, 130).ask("memory", 5, 5, 0, 0, 0, 129).go();
        Check.due("two grants", rig.board.process(0, 10), 2);
    }

    private static void allowBuffers() {
        for (int d = 0; d < 9; d++) {
            for (int call = 3; call <= 4; call++) {
                int n = HAS[d][call == 3 ? 2 : 1];
                int[] none = {n, n + 1, 2, -1, MIN, MAX};
                for (int k : none) {
                    new Talk(256).ask("buffer " + k + " of " + d + " by " + call, call, d, k, RAM, 4, 2, 6, RAM, 4)
                            .then(rig -> Check.due("no grant", rig.board.process(0, 10), 0)).go();
                }
                for (int k = 0; k < n; k++) {
                    Rig rig = new Talk(256).ask("buffer " + k + " of " + d + " by " + call, call, d, k, RAM, 4, 130, 0, 0,
                            4).go();
                    int at = rig.board.grant(0, d) + 8 + 8 * (HAS[d][0] + (call == 3 ? HAS[d][1] : 0) + k);
                    Check.due("address", rig.word(at), RAM);
                    Check.due("size", rig.word(at + 4), 4);
                }
            }
        }
        int[] drivers = {9, -1, MIN, MAX};
        for (int d : drivers) {
            new Talk(256).ask("driver " + d, 3, d, 0, RAM, 4, 2, 11, RAM, 4)
                    .ask("driver " + d, 4, d, 0, RAM, 4, 2, 11, RAM, 4).go();
        }
    }

    private static void allow(int address, int size, boolean reading, boolean writing) {
        String what = Integer.toHexString(address) + " size " + size;
        for (int call = 3; call <= 4; call++) {
            boolean so = call == 3 ? writing : reading;
            if (so) {
                new Talk(256).ask(what + " by " + call, call, 7, 0, address, size, 130, 0, 0, size).go();
            } else {
                new Talk(256).ask(what + " by " + call, call, 7, 0, address, size, 2, 6, address, size).go();
            }
        }
    }

    /** The size is not 0 and not all of it is accessible RAM (for reading: or of the app's region): 6. */
    private static void allowSizes() {
        allow(RAM, 1, true, true);
        allow(RAM, 256, true, true);
        allow(RAM, 257, false, false);
        allow(RAM + 1, 255, true, true);
        allow(RAM + 1, 256, false, false);
        allow(RAM - 1, 1, false, false);
        allow(RAM - 1, 2, false, false);
        allow(RAM + 255, 1, true, true);
        allow(RAM + 255, 2, false, false);
        allow(BREAK, 1, false, false);
        allow(CONTROL, 4, false, false);
        allow(APP, 1, true, false);
        allow(APP, APP_END - APP, true, false);
        allow(APP, APP_END - APP + 1, false, false);
        allow(APP - 1, 1, false, false);
        allow(APP - 1, 2, false, false);
        allow(APP_END - 1, 1, true, false);
        allow(APP_END - 1, 2, false, false);
        allow(APP_END, 1, false, false);
        allow(0x1F000, 4, false, false);
        allow(APP, RAM + 256 - APP, false, false);
        allow(RAM, -1, false, false);
        allow(RAM, MIN, false, false);
        allow(RAM, MAX, false, false);
        allow(-1, 1, false, false);
        allow(-1, RAM + 10, false, false);
        allow(RAM + 4, -4, false, false);
        allow(MIN | RAM, 4, false, false);
        int[] anywhere = {0, 1, RAM, BREAK, APP, APP_END, -1, MIN, CONTROL};
        for (int address : anywhere) {
            allow(address, 0, true, true);
        }
        Talk bare = new Talk(0);
        bare.ask("no ram: size 0", 3, 7, 0, RAM, 0, 130).ask("no ram: size 1", 3, 7, 0, RAM, 1, 2, 6)
                .ask("no ram: the app", 4, 7, 0, APP, 1, 130).go();
        new Talk(256).ask("break down", 5, 0, RAM + 64, 0, 0, 128).ask("up to it", 3, 7, 0, RAM, 64, 130)
                .ask("beyond it", 3, 7, 0, RAM, 65, 2, 6).ask("break up", 5, 0, RAM + 68, 0, 0, 128)
                .ask("up to it", 3, 7, 0, RAM, 68, 130, RAM, 64).go();
    }

    private static void allowOrder() {
        crowded().ask("all wrong", 3, 9, 9, 0, 4, 2, 11, 0, 4)
                .ask("buffer, lies and memory", 3, 1, 2, 0, 4, 2, 6, 0, 4)
                .ask("lies and memory", 3, 1, 0, 0, 4, 2, 6, 0, 4)
                .ask("memory alone", 3, 1, 0, RAM, 4, 2, 9, RAM, 4)
                .ask("memory alone, for reading", 4, 1, 0, RAM, 4, 2, 9, RAM, 4)
                .ask("size 0 needs memory, too", 4, 8, 0, 0, 0, 2, 9, 0, 0)
                .ask("lamps have no buffers", 4, 2, 0, RAM, 4, 2, 6, RAM, 4)
                .then(rig -> Check.due("no grant", rig.board.process(0, 10), 0)).go();
    }

    private static void allowTakesBack() {
        new Talk(256).ask("first", 3, 1, 1, RAM, 4, 130, 0, 0)
                .ask("one that is refused", 3, 1, 1, RAM, 257, 2, 6)
                .ask("the first was still there", 3, 1, 1, RAM + 8, 8, 130, RAM, 4)
                .ask("another buffer", 3, 1, 0, RAM + 16, 2, 130, 0, 0)
                .ask("for reading", 4, 1, 1, RAM + 24, 3, 130, 0, 0)
                .ask("size 0 is kept as it is told", 3, 1, 1, -1, 0, 130, RAM + 8, 8)
                .ask("as it was", 3, 1, 1, RAM, 1, 130, -1, 0)
                .ask("as it was", 4, 1, 1, RAM, 1, 130, RAM + 24, 3)
                .ask("as it was", 3, 1, 0, RAM, 1, 130, RAM + 16, 2).go();
    }

    private static void breakIs(String what, int how, int a1, int error, int want) {
        Integer[] due = error != 0 ? new Integer[] {0, error} : how == 0 ? new Integer[] {128, a1}
                : new Integer[] {129, BREAK};
        Rig rig = new Talk(256).ask(what, 5, how, a1, 33, 44, due).go();
        Check.due(what + ": break", rig.board.process(0, 6), want);
        Check.due(what + ": a2 stays", rig.board.register(0, 12), 33);
    }

    /** Rounded up to a multiple of 4; below the block's beginning 6, above LOWEST 9. */
    private static void memoryBounds() {
        for (int off = -8; off <= 4; off++) {
            boolean below = off <= -4;
            breakIs("at the beginning and " + off, 0, RAM + off, below ? 6 : 0, below ? BREAK : RAM + (off + 3 & -4));
            breakIs("by it", 1, off - 256, below ? 6 : 0, below ? BREAK : RAM + (off + 3 & -4));
            boolean above = off > 0;
            breakIs("at control and " + off, 0, CONTROL + off, above ? 9 : 0, above ? BREAK : CONTROL + (off + 3 & -4));
            breakIs("by it", 1, CONTROL - BREAK + off, above ? 9 : 0, above ? BREAK : CONTROL + (off + 3 & -4));
            breakIs("by a few", 1, off, 0, BREAK + (off + 3 & -4));
        }
        int[] told = {APP, APP_END, RAM, BREAK, CONTROL};
        for (int how = 2; how <= 6; how++) {
            new Talk(256).ask("memory " + how, 5, how, 22, 33, 44, 129, told[how - 2], 33, 44).go();
        }
    }

    private static void memoryWithoutWrapping() {
        int[] below = {0, 1, RAM - 4, APP, 0x1FFFC};
        for (int at : below) {
            breakIs("break " + Integer.toHexString(at), 0, at, 6, BREAK);
        }
        int[] above = {-1, -3, -4, MIN, MAX, MAX - 3, CONTROL + 1, 0x30000, MIN | RAM};
        for (int at : above) {
            breakIs("break " + Integer.toHexString(at), 0, at, 9, BREAK);
        }
        breakIs("by the greatest", 1, MAX, 9, BREAK);
        breakIs("by the least", 1, MIN, 6, BREAK);
        breakIs("by as much as would wrap to 0", 1, -BREAK, 6, BREAK);
        breakIs("by as much as would wrap below 0", 1, -BREAK - 4, 6, BREAK);
    }

    /** Below the end of a buffer with a size above 0 that lies in RAM: 6. */
    private static void memoryBuffers() {
        for (int call = 3; call <= 4; call++) {
            new Talk(256).ask("buffer", call, 7, 0, RAM + 101, 8, 130)
                    .ask("4 below its end", 5, 0, RAM + 105, 0, 0, 0, 6)
                    .ask("rounded up to it", 5, 0, RAM + 109, 0, 0, 128)
                    .ask("one that is too short", 5, 1, -4, 0, 0, 0, 6)
                    .ask("the break stayed", 5, 5, 0, 0, 0, 129, RAM + 112)
                    .ask("size 0", call, 7, 0, RAM + 101, 0, 130, RAM + 101, 8)
                    .ask("then it goes", 5, 0, RAM, 0, 0, 128).go();
        }
        new Talk(256).allowRead(7, 0, RAM + 96, 4).allowWrite(4, 0, RAM + 32, 4).allowRead(8, 0, RAM + 64, 4)
                .ask("the last one counts", 5, 0, RAM + 96, 0, 0, 0, 6).ask("its end", 5, 0, RAM + 100, 0, 0, 128)
                .ask("take it back", 4, 7, 0, 0, 0, 130).ask("the next", 5, 0, RAM + 64, 0, 0, 0, 6)
                .ask("its end", 5, 0, RAM + 68, 0, 0, 128).ask("take it back", 4, 8, 0, 0, 0, 130)
                .ask("the next", 5, 0, RAM + 35, 0, 0, 128).ask("the next", 5, 0, RAM + 32, 0, 0, 0, 6).go();
        new Talk(256).allowRead(7, 0, APP_END - 4, 4).ask("one in the app is none", 5, 0, RAM, 0, 0, 128).go();
        for (int k = 0; k < 2; k++) {
            for (int call = 3; call <= 4; call++) {
                new Talk(256).ask("each of the console's", call, 1, k, RAM + 252, 4, 130)
                        .ask("holds the break", 5, 1, -4, 0, 0, 0, 6).ask("where it is", 5, 1, -3, 0, 0, 129, BREAK).go();
            }
        }
    }

    private static void exitCodes() {
        int[] codes = {0, 1, -1, MIN, MAX};
        for (int code : codes) {
            Rig rig = new Talk(256).ask("exit", 6, 0, code, 3, 4).go();
            rig.state("ended", 0, 4);
            Check.due("code", rig.board.process(0, 11), code);
            rig.event("ended", 0, 0, 4, code);
            rig.board.restart(0);
            Check.due("code when started again", rig.board.process(0, 11), 0);
        }
        Rig rig = Rig.running(64, new Code().exit(1, 5));
        rig.run(400);
        Check.due("exit with 1 has no limit", rig.board.process(0, 8), 100);
        rig.state("it goes on", 0, 1);
        Check.due("no code", rig.board.process(0, 11), 0);
        rig.event("restarts then", 0, 0, 3, 100);
    }

    private static Rig hearing() {
        return Rig.running(256, new Code().subscribe(3, 0, "f", 0).command(3, 1, 0, 0).label("f").spin()).run(20);
    }

    /** At most 10: if there are so many, it is DROPPED. */
    private static void tenUpcalls() {
        Rig rig = hearing();
        for (int n = 1; n <= 13; n++) {
            rig.board.press(0, n % 2 == 1);
            Check.due(n + " came: wait", rig.board.process(0, 9), Math.min(n, 10));
            Check.due(n + " came: dropped", rig.board.count(9), Math.max(0, n - 10));
            Check.due(n + " came: in control", rig.word(CONTROL + 40), Math.max(0, n - 10));
        }
        rig.event("a drop", 0, 0, 5, 48);
        rig.event("each is noted", 2, 0, 5, 48);
        for (int k = 0; k < 10; k++) {
            Check.due("the first ten wait", rig.board.upcall(0, k, 3), k % 2 == 0 ? 1 : 0);
        }
        Check.due("no eleventh", rig.board.upcall(0, 10, 0), GrantBoard.NONE);
        Talk talk = new Talk(256).subscribe(6, 0);
        for (int i = 0; i < 10; i++) {
            talk.command("sample", 6, 1, i % 2, 0, 128).waiting("so many", i + 1);
        }
        talk.command("the eleventh", 6, 1, 0, 0, 128).waiting("ten", 10)
                .then(r -> Check.due("dropped", r.board.count(9), 1))
                .ask("one is given", 0, 2, 6, 0, 0, 0, 0, 1).waiting("nine", 9)
                .command("there is place again", 6, 1, 1, 0, 128).waiting("ten", 10)
                .lastUpcall("behind the others", 6, 0, 1, 0, 1)
                .then(r -> Check.due("no more dropped", r.board.count(9), 1))
                .ask("subscribing takes all ten back", 1, 6, 0, F, 9, 130, F, 0).waiting("none", 0)
                .command("and the next waits alone", 6, 1, 1, 0, 128).waiting("one", 1).go();
    }

    /** The number of a drop: 16 times the driver and its number. */
    private static void dropsAreNoted() {
        Talk talk = new Talk(256).subscribe(6, 0).subscribe(1, 2).allowWrite(1, 1, RAM, 1);
        for (int i = 0; i < 10; i++) {
            talk.command("sample", 6, 1, 0, 0, 128);
        }
        Rig rig = talk.command("read", 1, 2, 1, 0, 128).then(r -> Check.due("it comes all the same", r.board.type(7), 1)).go();
        rig.event("dropped", 0, 0, 5, 18);
        Check.due("the byte is there", rig.board.memory(RAM), 7);
        Check.due("ten wait", rig.board.process(0, 9), 10);
    }

    private static void nothingComes(String what, Rig rig) {
        for (int i = 0; i < 12; i++) {
            rig.board.press(0, i % 2 == 0);
        }
        Check.due(what + ": none waits", rig.board.process(0, 9), 0);
        Check.due(what + ": none is dropped", rig.board.count(9), 0);
        Check.due(what + ": none is run", rig.board.count(6), 0);
    }

    private static void whoGetsNoUpcall() {
        nothingComes("no function", new Talk(256).command("hears", 3, 1, 0, 0, 128).go());
        nothingComes("function 0", new Talk(256).subscribe(3, 0).command("hears", 3, 1, 0, 0, 128)
                .ask("no more", 1, 3, 0, 0, 0, 130).go());
        nothingComes("ended", new Talk(256).subscribe(3, 0).command("hears", 3, 1, 0, 0, 128).ask("exit", 6, 0, 0, 0, 0)
                .go());
        nothingComes("does not hear", new Talk(256).subscribe(3, 0).command("hears 1", 3, 1, 1, 0, 128).go());
        Rig waits = new Talk(256).command("hears", 3, 1, 0, 0, 128).ask("waits", 0, 1, 0, 0, 0).go();
        nothingComes("waits, without a function", waits);
        waits.state("it waits still", 0, 2);
        Rig other = new Talk(256).command("hears", 3, 1, 0, 0, 128).ask("waits for", 0, 2, 3, 1, 0).go();
        nothingComes("waits for another number", other);
        other.state("it waits still", 0, 3);
        Rig faulted = Rig.running(256, new Code().subscribe(3, 0, "f", 0).command(3, 1, 0, 0).label("f").ebreak()).run(30);
        nothingComes("faulted", faulted);
        Rig held = hearing();
        held.board.hold(0, true);
        held.board.press(0, true);
        Check.due("a held one gets it", held.board.process(0, 9), 1);
    }

    /** As a process ends or faults, no upcalls wait and the own words of its grants become 0; the rest stays. */
    private static void overForGood() {
        for (int how = 0; how < 2; how++) {
            boolean exits = how == 0;
            Talk talk = new Talk(256).subscribe(6, 0).command("sample", 6, 1, 0, 0, 128)
                    .command("sampling", 6, 2, 1, 50, 128)
                    .allowWrite(1, 1, RAM, 8).allowRead(1, 1, RAM, 8).command("read", 1, 2, 8, 0, 128)
                    .command("write", 1, 1, 8, 0, 128).command("alarm", 0, 6, 5, 999999, 129)
                    .command("hears", 3, 1, 3, 0, 128).allowWrite(7, 0, RAM, 8);
            if (exits) {
                talk.ask("exit", 6, 0, 3, 0, 0);
            } else {
                talk.code(Code::ebreak).then(rig -> rig.run(1));
            }
            Rig rig = talk.go();
            rig.state("over", 0, exits ? 4 : 5);
            Check.due("none waits", rig.board.process(0, 9), 0);
            Check.due("grants stay", rig.board.process(0, 10), 5);
            int[][] own = {{0, 16, 3}, {1, 64, 4}, {3, 16, 1}, {6, 16, 3}, {7, 32, 1}};
            for (int[] row : own) {
                for (int i = 0; i < row[2]; i++) {
                    Check.due("own word " + i + " of " + row[0], rig.word(rig.board.grant(0, row[0]) + row[1] + 4 * i), 0);
                }
            }
            int above = 0;
            for (int driver : new int[] {6, 1, 0, 3, 7}) {
                Check.due("the number of " + driver + " stays", rig.word(rig.board.grant(0, driver)), driver);
                Check.due("what is above " + driver + " stays", rig.word(rig.board.grant(0, driver) + 4), above);
                above = rig.board.grant(0, driver);
            }
            Check.due("the subscription stays", rig.word(rig.board.grant(0, 6) + 8), F);
            Check.due("the buffer stays", rig.word(rig.board.grant(0, 7) + 28), 8);
            Check.due("no byte is read", rig.board.type(1), 0);
            int out = rig.board.count(3);
            rig.run(200);
            Check.due("none is put out", rig.board.count(3), out);
            Check.due("audit", rig.board.audit(), 0);
        }
    }

    /** What fails leaves break, grants, buffers, subscriptions, upcalls as they were. */
    private static void refusedLeavesAll() {
        int[][] refused = {
            {1, 9, 0, F, 0}, {1, 6, 1, F, 0}, {1, 6, 0, F + 1, 0}, {3, 9, 0, RAM, 4}, {3, 7, 1, RAM, 4}, {3, 7, 0, 0, 4},
            {4, 7, 0, BREAK, 1}, {2, 9, 0, 0, 0}, {2, 6, 9, 0, 0}, {2, 6, 1, 2, 0}, {2, 6, 2, 0, 0}, {2, 7, 1, 9, 0},
            {5, 0, 0, 0, 0}, {5, 0, -1, 0, 0}, {5, 1, MIN, 0, 0}, {5, 7, 0, 0, 0}, {0, 3, RAM, 0, 0}, {6, 2, 0, 0, 0},
            {7, 0, 0, 0, 0}};
        for (int[] r : refused) {
            int[] kept = new int[16];
            String what = "call " + r[0] + " of " + r[1] + " " + r[2];
            Talk talk = new Talk(256).subscribe(6, 0).command("sample", 6, 1, 1, 0, 128).allowWrite(7, 0, RAM, 8)
                    .command("sampling", 6, 2, 1, 50000, 128).then(rig -> look(rig, kept))
                    .ask(what, r[0], r[1], r[2], r[3], r[4])
                    .then(rig -> {
                        int[] now = new int[16];
                        look(rig, now);
                        Check.holds(what + " is refused", rig.board.register(0, 10) == 0 || rig.board.register(0, 10) == 2);
                        Check.holds(what + " changes nothing", java.util.Arrays.equals(kept, now));
                    });
            talk.go();
        }
    }

    private static void look(Rig rig, int[] kept) {
        for (int i = 0; i < 6; i++) {
            kept[i] = rig.board.process(0, 6 + i);
        }
        int sampler = rig.board.grant(0, 6);
        int post = rig.board.grant(0, 7);
        for (int i = 0; i < 5; i++) {
            kept[6 + i] = rig.word(sampler + 8 + 4 * i);
            kept[11 + i] = rig.word(post + 20 + 4 * i);
        }
    }
}

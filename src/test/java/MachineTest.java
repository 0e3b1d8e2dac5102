/** Part 2: instructions of 32 bits, accesses and faults, told through run, register, memory, process. */
public final class MachineTest {
    /** Where the code of an app with a plain head lies. */
    private static final int CODE = 0x10020;
    private static final int RAM = 0x20000;
    private static final int MIN = 0x80000000, MAX = 0x7FFFFFFF;

    public static void main(String[] args) {
        arithmetic();
        multiplication();
        immediates();
        uppersAndJumps();
        branches();
        loadsAndStores();
        atomics();
        reservations();
        systemWords();
        noInstructions();
        fetchFaults();
        accessFaults();
        faultsDoNothingElse();
        Check.finish();
    }

    private static int result(int word, int a, int b) {
        Code c = new Code().li(10, a).li(11, b).word(word).spin();
        Rig rig = Rig.running(64, c).run(6);
        rig.state("of an instruction", 0, 1);
        return rig.board.register(0, 12);
    }

    private static void op(String what, int kind, int high, int a, int b, int want) {
        Check.due(what + " " + a + " " + b, result(Code.rType(0x33, kind, high, 12, 10, 11), a, b), want);
    }

    private static void opImmediate(String what, int kind, int a, int v, int want) {
        Check.due(what + " " + a + " " + v, result(Code.iType(0x13, kind, 12, 10, v), a, 0), want);
    }

    private static void arithmetic() {
        op("add", 0, 0, MAX, 1, MIN);
        op("sub", 0, 32, MIN, 1, MAX);
        op("sll", 1, 0, 3, 33, 6);
        op("sll", 1, 0, 1, 31, MIN);
        op("slt", 2, 0, -1, 0, 1);
        op("slt", 2, 0, 0, -1, 0);
        op("slt", 2, 0, 5, 5, 0);
        op("sltu", 3, 0, 5, 5, 0);
        op("sltu", 3, 0, 5, MIN, 1);
        op("sltu", 3, 0, -2, -1, 1);
        op("sltu", 3, 0, -1, 0, 0);
        op("sltu", 3, 0, 0, -1, 1);
        op("xor", 4, 0, 0x0FF0, 0x00FF, 0x0F0F);
        op("srl", 5, 0, MIN, 31, 1);
        op("srl", 5, 0, -1, 32, -1);
        op("sra", 5, 32, MIN, 31, -1);
        op("or", 6, 0, 0x0F00, 0x00F0, 0x0FF0);
        op("and", 7, 0, 0x0FF0, 0x00FF, 0x00F0);
    }

    private static void multiplication() {
        op("mul", 0, 1, MIN, -1, MIN);
        op("mul", 0, 1, 0x12345, 0x6789A, 0x12345 * 0x6789A);
        op("mulh", 1, 1, MIN, MIN, 0x40000000);
        op("mulh", 1, 1, -1, 1, -1);
        op("mulhsu", 2, 1, -1, -1, -1);
        op("mulhsu", 2, 1, MIN, -1, MIN);
        op("mulhsu", 2, 1, MAX, -1, 0x7FFFFFFE);
        op("mulhu", 3, 1, -1, -1, -2);
        op("div", 4, 1, -7, 2, -3);
        op("div", 4, 1, 7, 0, -1);
        op("div", 4, 1, MIN, -1, MIN);
        op("divu", 5, 1, -1, 2, MAX);
        op("divu", 5, 1, 7, 0, -1);
        op("divu", 5, 1, 1, -1, 0);
        op("rem", 6, 1, -7, 2, -1);
        op("rem", 6, 1, -7, 0, -7);
        op("rem", 6, 1, MIN, -1, 0);
        op("remu", 7, 1, -1, 10, 5);
        op("remu", 7, 1, -7, 0, -7);
    }

    private static void immediates() {
        opImmediate("addi", 0, 5, -2048, -2043);
        opImmediate("slti", 2, -2, -1, 1);
        opImmediate("sltiu", 3, 5, -1, 1);
        opImmediate("sltiu", 3, -1, -1, 0);
        opImmediate("xori", 4, 0x55, -1, ~0x55);
        opImmediate("ori", 6, 0x50, 0x05, 0x55);
        opImmediate("andi", 7, -1, 0x7F0, 0x7F0);
        opImmediate("slli", 1, 1, 31, MIN);
        opImmediate("srli", 5, MIN, 31, 1);
        opImmediate("srai", 5, MIN, 31 | 1024, -1);
    }

    private static void uppersAndJumps() {
        Check.due("lui", result(0xFFFFF000 | 12 << 7 | 0x37, 0, 0), 0xFFFFF000);
        Check.due("auipc", result(0x80001000 | 12 << 7 | 0x17, 0, 0), CODE + 8 + 0x80001000);

        Code c = new Code().jal(5, "far").nop().nop().label("back").word(Code.iType(0x67, 0, 6, 5, 1)).label("far")
                .jal(7, "back");
        Rig rig = Rig.running(64, c);
        rig.run(1);
        Check.due("jal goes", rig.board.process(0, 1), CODE + 16);
        Check.due("jal links", rig.board.register(0, 5), CODE + 4);
        rig.run(1);
        Check.due("jal back", rig.board.process(0, 1), CODE + 12);
        rig.run(1);
        Check.due("jalr drops the lowest bit", rig.board.process(0, 1), CODE + 4);
        Check.due("jalr links", rig.board.register(0, 6), CODE + 16);

        rig = Rig.running(64, new Code().la(5, "there").word(Code.iType(0x67, 0, 5, 5, -4)).nop().label("there").spin());
        rig.run(3);
        Check.due("jalr to its own link register", rig.board.process(0, 1), CODE + 12);
        Check.due("and the link", rig.board.register(0, 5), CODE + 12);

        rig = Rig.running(64, new Code().addi(0, 0, 5).word(Code.iType(0x67, 0, 0, 10, 8)).spin());
        rig.run(3);
        Check.due("x0 stays 0", rig.board.register(0, 0), 0);
        Check.due("jump without a link", rig.board.process(0, 1), CODE + 8);
    }

    private static void branch(String what, int kind, int a, int b, boolean taken) {
        Code c = new Code().li(10, a).li(11, b).label("b").branch(kind, 10, 11, "t").spin().nop().label("t").spin();
        Rig rig = Rig.running(64, c).run(6);
        Check.due(what + " " + a + " " + b, rig.board.process(0, 1), CODE + c.at("b") + (taken ? 12 : 4));
    }

    private static void branches() {
        branch("beq", 0, 5, 5, true);
        branch("beq", 0, 5, 6, false);
        branch("bne", 1, 5, 6, true);
        branch("bne", 1, 5, 5, false);
        branch("blt", 4, -1, 0, true);
        branch("blt", 4, 0, 0, false);
        branch("bge", 5, 0, 0, true);
        branch("bge", 5, -1, 0, false);
        branch("bltu", 6, 0, -1, true);
        branch("bltu", 6, -1, 0, false);
        branch("bgeu", 7, -1, 0, true);
        branch("bgeu", 7, 0, -1, false);
        Rig rig = Rig.running(64, new Code().j("x").label("y").spin().label("x").branch(0, 0, 0, "y").nop());
        rig.run(2);
        Check.due("backwards", rig.board.process(0, 1), CODE + 4);
    }

    private static void loadsAndStores() {
        Code c = new Code().li(5, 0x80FF7F01).sw(11, 5, 16)
                .word(Code.iType(3, 0, 20, 11, 18)).word(Code.iType(3, 4, 21, 11, 18))
                .word(Code.iType(3, 1, 22, 11, 18)).word(Code.iType(3, 5, 23, 11, 18))
                .word(Code.iType(3, 2, 24, 11, 16)).word(Code.iType(3, 0, 25, 11, 16))
                .sb(11, 5, 23).word(Code.sType(1, 11, 5, 20)).sw(11, 5, 24)
                .addi(6, 11, 40).sw(6, 5, -8)
                .word(Code.iType(3, 2, 26, 10, 0)).word(Code.iType(3, 2, 0, 11, 16)).spin();
        Rig rig = Rig.running(64, c).run(20);
        GrantBoard b = rig.board;
        Rig over = Rig.running(64, new Code().li(5, -1).sw(11, 5, 0).sw(11, 5, 4).word(Code.sType(1, 11, 0, 0))
                .word(Code.sType(1, 11, 0, 6)).sw(11, 5, 8).sb(11, 0, 9).spin()).run(10);
        Check.due("sh over ones, low", over.word(RAM), 0xFFFF0000);
        Check.due("sh over ones, high", over.word(RAM + 4), 0x0000FFFF);
        Check.due("sb over ones", over.word(RAM + 8), 0xFFFF00FF);
        Check.due("lb", b.register(0, 20), -1);
        Check.due("lbu", b.register(0, 21), 255);
        Check.due("lh", b.register(0, 22), 0xFFFF80FF);
        Check.due("lhu", b.register(0, 23), 0x80FF);
        Check.due("lw", b.register(0, 24), 0x80FF7F01);
        Check.due("lb low", b.register(0, 25), 1);
        Check.due("lowest byte first", b.memory(RAM + 16), 1);
        Check.due("highest last", b.memory(RAM + 19), 0x80);
        Check.due("sb and sh", rig.word(RAM + 20), 0x01007F01);
        Check.due("sw", rig.word(RAM + 24), 0x80FF7F01);
        Check.due("sw below", rig.word(RAM + 32), 0x80FF7F01);
        Check.due("the app is read", b.register(0, 26), rig.word(CODE));
        Check.due("load into x0", b.register(0, 0), 0);
    }

    private static void atomic(String what, int operation, int old, int v, int after) {
        Code c = new Code().li(5, old).sw(11, 5, 8).li(6, v).addi(7, 11, 8)
                .word(Code.rType(0x2F, 2, operation << 2 | 3, 12, 7, 6)).spin();
        Rig rig = Rig.running(64, c).run(10);
        Check.due(what + " answers", rig.board.register(0, 12), old);
        Check.due(what + " leaves", rig.word(RAM + 8), after);
    }

    private static void atomics() {
        atomic("swap", 1, 5, -9, -9);
        atomic("add", 0, MAX, 1, MIN);
        atomic("xor", 4, 12, 10, 6);
        atomic("and", 12, 12, 10, 8);
        atomic("or", 8, 12, 10, 14);
        atomic("min", 16, -1, 1, -1);
        atomic("max", 20, -1, 1, 1);
        atomic("minu", 24, -1, 1, 1);
        atomic("maxu", 28, -1, 1, -1);
        atomic("min", 16, 1, -1, -1);
        atomic("max", 20, 1, -1, 1);
        atomic("minu", 24, 1, -1, 1);
        atomic("maxu", 28, 1, -1, -1);
        Code c = new Code().li(5, 3).sw(11, 5, 0).word(Code.rType(0x2F, 2, 0, 5, 11, 5)).spin();
        Rig rig = Rig.running(64, c).run(5);
        Check.due("rd and rs2 the same: memory", rig.word(RAM), 6);
        Check.due("rd and rs2 the same: rd", rig.board.register(0, 5), 3);
    }

    private static Code lr(Code c, int rd, int rs) {
        return c.word(Code.rType(0x2F, 2, 2 << 2, rd, rs, 0));
    }

    private static Code sc(Code c, int rd, int rs, int from) {
        return c.word(Code.rType(0x2F, 2, 3 << 2, rd, rs, from));
    }

    private static void reservations() {
        Code c = new Code().mv(8, 11).li(6, 7);
        sc(c, 20, 8, 6);
        lr(c, 21, 8);
        sc(c, 22, 8, 6);
        sc(c, 23, 8, 6);
        lr(c, 24, 8).addi(9, 8, 4);
        sc(c, 25, 9, 6);
        sc(c, 26, 8, 6);
        lr(c, 0, 8).sw(8, 0, 0);
        sc(c, 27, 8, 6);
        lr(c, 0, 8).li(14, 99).ecall();
        sc(c, 28, 8, 6);
        lr(c, 0, 8);
        lr(c, 0, 9);
        sc(c, 29, 8, 6).spin();
        Rig rig = Rig.running(64, c).run(30);
        GrantBoard b = rig.board;
        Check.due("sc without", b.register(0, 20), 1);
        Check.due("lr", b.register(0, 21), 0);
        Check.due("sc", b.register(0, 22), 0);
        Check.due("it ended", b.register(0, 23), 1);
        Check.due("lr reads", b.register(0, 24), 7);
        Check.due("sc of another word", b.register(0, 25), 1);
        Check.due("and that ended it", b.register(0, 26), 1);
        Check.due("a store does not end it", b.register(0, 27), 0);
        Check.due("a system call does", b.register(0, 28), 1);
        Check.due("the latest lr counts", b.register(0, 29), 1);
        Check.due("only stored where it answered 0", rig.word(RAM + 4), 0);

        c = new Code().mv(8, 11);
        lr(c, 5, 8);
        sc(c, 6, 8, 0).spin();
        rig = Rig.with(App.of(64, c));
        rig.board.boot(0, 2, 0, false, 0);
        rig.run(3);
        Check.due("a new turn of the same process ends it", rig.board.register(0, 6), 1);
        rig = Rig.with(App.of(64, c));
        rig.board.boot(0, 3, 0, false, 0);
        rig.run(3);
        Check.due("within a turn", rig.board.register(0, 6), 0);
        Check.due("stands at the end", rig.board.process(0, 1), CODE + 12);

        rig = Rig.with(App.of(64, new Code().yieldWait().spin()), App.of(64, c));
        rig.board.boot(1, 1, 0, false, 0);
        rig.run(5);
        rig.board.restart(0);
        rig.run(3);
        rig.run(1);
        Check.due("priority: another process was between", rig.board.register(1, 6), 1);

        c = sc(new Code(), 6, 11, 0);
        lr(c, 5, 11).spin();
        rig = Rig.running(64, c).run(2);
        rig.board.restart(0);
        rig.run(1);
        Check.due("a process that is started reserves nothing", rig.board.register(0, 6), 1);

        c = new Code().mv(8, 10);
        lr(c, 5, 8).spin();
        rig = Rig.running(64, c).run(3);
        Check.due("lr of the app", rig.board.register(0, 5), rig.word(CODE));
    }

    private static void systemWords() {
        for (int word : new int[] {0x0F, 0xFFF0000F | 31 << 15 | 31 << 7, 0x100F, 0xFFFF9F8F}) {
            Rig rig = Rig.running(64, new Code().word(word).spin()).run(1);
            Check.due("fence", rig.board.process(0, 1), CODE + 4);
            Check.due("fence leaves x31", rig.board.register(0, 31), 0);
        }
        fault("ebreak", new Code().nop().ebreak(), 3, CODE + 4, 4);
    }

    /** The fault that the code comes to at an offset, by the words of CONTROL. */
    private static Rig fault(String what, Code code, int number, int value, int offset) {
        Rig rig = Rig.running(64, code).run(20);
        rig.state(what, 0, 5);
        int control = RAM + 1024 - 64;
        Check.due(what + " number", rig.word(control + 24), 1 + number);
        Check.due(what + " value", rig.word(control + 28), value);
        Check.due(what + " pc in control", rig.word(control + 32), CODE + offset);
        Check.due(what + " pc stays", rig.board.process(0, 1), CODE + offset);
        Check.due(what + " counted", rig.board.count(7), 1);
        return rig;
    }

    private static void noInstruction(int word) {
        fault("word " + Integer.toHexString(word), new Code().word(word), 2, word, 0);
    }

    private static void noInstructions() {
        int[] words = {
            0x200F, 0x700F, // op 15 with other f
            0x10000073 | 0x200000, 0x10500073, 0x30001073, 0x000000F3, 0x00200073, // op 115
            Code.iType(0x67, 1, 1, 1, 0), Code.bType(2, 0, 0, 8), Code.bType(3, 0, 0, 8),
            Code.iType(3, 3, 5, 11, 0), Code.iType(3, 6, 5, 11, 0), Code.iType(3, 7, 5, 11, 0),
            Code.sType(3, 11, 5, 0), Code.sType(7, 11, 5, 0),
            Code.iType(0x13, 1, 5, 5, 32), Code.iType(0x13, 1, 5, 5, 1024),
            Code.iType(0x13, 5, 5, 5, 32), Code.iType(0x13, 5, 5, 5, 2048 | 1),
            Code.rType(0x33, 1, 32, 5, 5, 5), Code.rType(0x33, 7, 32, 5, 5, 5), Code.rType(0x33, 0, 2, 5, 5, 5),
            Code.rType(0x33, 0, 33, 5, 5, 5), Code.rType(0x33, 0, 64, 5, 5, 5),
            Code.rType(0x2F, 2, 5 << 2, 5, 11, 5), Code.rType(0x2F, 2, 9 << 2, 5, 11, 5),
            Code.rType(0x2F, 2, 31 << 2, 5, 11, 5), Code.rType(0x2F, 3, 0, 5, 11, 5),
            Code.rType(0x2F, 1, 0, 5, 11, 5), Code.rType(0x2F, 2, 2 << 2, 5, 11, 1),
            0x0000003B, 0x0000001B, 0x00000007, 0x00000027, 0x00000053, 0x0000000B, 0x0000007F, -1, 0x0000001F,
        };
        for (int word : words) {
            noInstruction(word);
        }
        fault("decoded before the address is looked at", new Code().addi(5, 11, 1)
                .word(Code.rType(0x2F, 2, 5 << 2, 5, 5, 5)), 2, Code.rType(0x2F, 2, 5 << 2, 5, 5, 5), 4);
    }

    private static void fetchFaults() {
        fault("behind the app", new Code().nop(), 1, CODE + 4, 4);
        fault("second half behind the app", new Code().half(1).half(0x13), 1, CODE + 4, 2);
        Rig rig = Rig.running(64, new Code().jr(11)).run(2);
        Check.due("ram is not executed: pc", rig.board.process(0, 1), RAM);
        Check.due("ram is not executed", rig.word(RAM + 1024 - 64 + 24), 2);
        Check.due("its value", rig.word(RAM + 1024 - 64 + 28), RAM);
        rig = Rig.running(64, new Code().li(5, 0x1F000).jr(5)).run(5);
        Check.due("other flash", rig.word(RAM + 1024 - 64 + 28), 0x1F000);
        rig = Rig.running(64, new Code().li(5, -2).jr(5)).run(5);
        Check.due("the highest address", rig.word(RAM + 1024 - 64 + 28), -2);
        rig = Rig.running(new App().main(5, 64).code(new Code().nop().spin())).run(1);
        Check.due("start's lowest bit is dropped", rig.board.process(0, 1), CODE + 4);
        rig = Rig.running(new App().main(-32, 64).code(new Code().nop().spin())).run(1);
        rig.state("start in the head", 0, 1);
        Check.due("a head may be executed: 2, 32 is C.SLLI64 of x0", rig.board.process(0, 1), 0x10002);
    }

    private static void accessFaults() {
        fault("lh odd", new Code().word(Code.iType(3, 1, 5, 11, 1)), 4, RAM + 1, 0);
        fault("lhu odd", new Code().word(Code.iType(3, 5, 5, 11, 3)), 4, RAM + 3, 0);
        fault("lw at 2", new Code().lw(5, 11, 2), 4, RAM + 2, 0);
        fault("lw at 2, not allowed either", new Code().lw(5, 0, 2), 4, 2, 0);
        fault("lw of nothing", new Code().lw(5, 0, 0), 5, 0, 0);
        fault("lw at the top", new Code().lw(5, 0, -4), 5, -4, 0);
        fault("lw at the break", new Code().lw(5, 11, 60).lw(5, 11, 64), 5, RAM + 64, 4);
        fault("lb at the break", new Code().word(Code.iType(3, 0, 5, 11, 63)).word(Code.iType(3, 0, 5, 11, 64)), 5,
                RAM + 64, 4);
        fault("lb below the block", new Code().word(Code.iType(3, 0, 5, 11, -1)), 5, RAM - 1, 0);
        fault("lw below the app", new Code().lw(5, 10, -32).lw(5, 10, -36), 5, 0x10000 - 4, 4);
        fault("lw behind the app", new Code().lw(5, 10, 8).lw(5, 10, 12).nop(), 5, CODE + 12, 4);
        fault("sh odd", new Code().word(Code.sType(1, 11, 5, 1)), 6, RAM + 1, 0);
        fault("sw at 2", new Code().sw(11, 5, 2), 6, RAM + 2, 0);
        fault("sw at 2 of the app", new Code().sw(10, 5, 2), 6, CODE + 2, 0);
        fault("sw into the app", new Code().sw(10, 5, 0), 7, CODE, 0);
        fault("sb at the break", new Code().sb(11, 5, 63).sb(11, 5, 64), 7, RAM + 64, 4);
        fault("sb into control", new Code().sb(11, 5, 1020), 7, RAM + 1020, 0);
        fault("lr at 2", lr(new Code().addi(5, 11, 2), 6, 5), 4, RAM + 2, 4);
        fault("lr of nothing", lr(new Code(), 6, 0), 5, 0, 0);
        fault("sc at 2", sc(new Code().addi(5, 11, 2), 6, 5, 0), 6, RAM + 2, 4);
        fault("sc that would fail", sc(new Code(), 6, 10, 0), 7, CODE, 0);
        fault("amo at 1", new Code().addi(5, 11, 1).word(Code.rType(0x2F, 2, 0, 6, 5, 5)), 6, RAM + 1, 4);
        fault("amo of the app", new Code().word(Code.rType(0x2F, 2, 0, 6, 10, 5)), 7, CODE, 0);
        fault("amo of nothing", new Code().word(Code.rType(0x2F, 2, 0, 6, 0, 5)), 7, 0, 0);

        Rig rig = Rig.with(App.of(64, new Code().spin()), App.of(64, new Code().lw(5, 11, -1024).spin()),
                App.of(64, new Code().li(5, 0x10000).lw(5, 5, 0).spin()));
        rig.board.boot(0, 1, 0, false, 0);
        rig.run(12);
        rig.state("another's block", 1, 5);
        rig.state("another's app", 2, 5);
    }

    private static void faultsDoNothingElse() {
        Rig rig = fault("load", new Code().li(5, 7).lw(5, 0, 0), 5, 0, 4);
        Check.due("rd stays", rig.board.register(0, 5), 7);
        Check.due("instructions with faults count", rig.board.count(10), 2);
        rig = fault("amo", new Code().li(5, 7).word(Code.rType(0x2F, 2, 0, 5, 10, 5)), 7, CODE, 4);
        Check.due("rd stays", rig.board.register(0, 5), 7);
        Check.due("flash stays", rig.word(CODE), Code.iType(0x13, 0, 5, 0, 7));
        rig = fault("the link stays", new Code().word(Code.iType(0x67, 2, 1, 5, 0)), 2, Code.iType(0x67, 2, 1, 5, 0), 0);
        Check.due("ra stays", rig.board.register(0, 1), 0);
    }
}

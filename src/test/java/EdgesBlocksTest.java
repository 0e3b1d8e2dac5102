/** Part 4: blocks, CONTROL, starting, regions of each shape, break and LOWEST. */
public final class EdgesBlocksTest {
    private static final int RAM = 0x20000;
    private static final Code SPIN = new Code().spin();

    public static void main(String[] args) {
        blockSizes();
        breakAtFirst();
        controlAtFirst();
        controlInLife();
        controlOutlivesStarting();
        faultsInControl();
        startingClearsTheBlock();
        startingRegisters();
        startingEndsWhatIsUnderWay();
        ramRegions();
        appRegions();
        regionsByTheBreak();
        otherEntries();
        breakMeetsLowest();
        Check.finish();
    }

    private static App app(int ram) {
        return App.plain(ram).code(SPIN);
    }

    /** The least power of 2, 1024 at least, that is RAM and 512 or more. */
    private static void blockSizes() {
        int[] rams = {0, 511, 512, 513, 1535, 1536, 1537, 3583, 3584, 3585, 7679, 7680, 7681, 15871, 15872};
        int[] sizes = {1024, 1024, 1024, 2048, 2048, 2048, 4096, 4096, 4096, 8192, 8192, 8192, 16384, 16384, 16384};
        for (int i = 0; i < rams.length; i++) {
            Rig rig = Rig.running(app(rams[i]));
            Check.due("block for " + rams[i], rig.board.process(0, 5), sizes[i]);
            Check.due("lowest is control", rig.board.process(0, 7), RAM + sizes[i] - 64);
            Check.due("x12", rig.board.register(0, 12), sizes[i]);
        }
    }

    /** At first the beginning and RAM, rounded up to a multiple of 4. */
    private static void breakAtFirst() {
        for (int ram = 0; ram <= 9; ram++) {
            Rig rig = Rig.running(app(ram));
            int want = RAM + (ram + 3) / 4 * 4;
            Check.due("break of " + ram, rig.board.process(0, 6), want);
            Check.due("x2", rig.board.register(0, 2), want);
            Check.due("x13", rig.board.register(0, 13), want);
        }
    }

    private static void control(String what, Rig rig, int at, Integer... words) {
        for (int i = 0; i < words.length; i++) {
            if (words[i] != null) {
                Check.due(what + ": control word " + i, rig.word(at + 4 * i), words[i]);
            }
        }
    }

    private static void controlAtFirst() {
        App[] apps = {app(64), app(64), app(64), app(64), app(64), app(64), app(64), app(64)};
        Rig rig = Rig.with(apps);
        rig.board.boot(0, 1, 0, false, 0);
        for (int i = 0; i < 8; i++) {
            int at = RAM + 1024 * i + 960;
            control("process " + i, rig, at, i, 0x10000 + 36 * i, RAM + 1024 * i + 64, at, 0, 0, 0, 0, 0, 1, 0, 0, 0, 0, 0,
                    0);
        }
    }

    private static void controlInLife() {
        Code c = new Code().subscribe(3, 0, "f", 0).command(3, 1, 0, 0).call(5, 1, 8, 0, 0).yieldWait().yieldFor(9, 9)
                .label("f").exit(0, 5);
        Rig rig = Rig.running(64, c);
        int at = RAM + 960;
        rig.run(30);
        control("waits", rig, at, 0, 0x10000, RAM + 72, at - 20, 0, 0, 0, 0, 0, 2, 0);
        rig.board.hold(0, true);
        control("waits, held", rig, at, null, null, null, null, null, null, null, null, null, 10);
        rig.board.press(0, true);
        control("ready, held", rig, at, null, null, null, null, null, 0, null, null, null, 9);
        for (int i = 0; i < 12; i++) {
            rig.board.press(0, i % 2 == 1);
        }
        control("ten wait, two dropped", rig, at, null, null, null, null, 0, 10, 0, 0, 0, 9, 2);
        rig.board.hold(0, false);
        rig.run(10);
        control("ended", rig, at, 0, 0x10000, RAM + 72, at - 20, 0, 0, 0, 0, 0, 4, 2, 0, 0, 0, 0, 0);
    }

    /** All of its block becomes 0, but CONTROL. */
    private static void controlOutlivesStarting() {
        Rig rig = Rig.with(App.of(64, new Code().call(5, 1, 8, 0, 0).lw(5, 0, 0)));
        rig.board.boot(0, 100, 1, false, 0);
        rig.run(7);
        int at = RAM + 960;
        control("started again", rig, at, 0, 0x10000, RAM + 64, at, 1, 0, 6, 0, 0x10020 + 24, 1, 0);
        rig.run(7);
        control("faulted", rig, at, 0, 0x10000, RAM + 72, at, 1, 0, 6, 0, 0x10020 + 24, 5, 0);
        rig.board.restart(0);
        control("by the maker", rig, at, 0, 0x10000, RAM + 64, at, 2, 0, 6, 0, 0x10020 + 24, 1, 0);
        rig.board.off();
        rig.boot();
        control("a new boot knows of no fault", rig, at, 0, 0x10000, RAM + 64, at, 0, 0, 0, 0, 0, 1, 0);
    }

    /** 1 and the latest fault's number, its value, its pc. */
    private static void faultsInControl() {
        Code c = new Code().lw(5, 11, 2);
        int[] faults = {4, 5, 6, 7, 3, 2, 1};
        Code[] codes = {c, new Code().lw(5, 0, 0), new Code().sw(11, 5, 1), new Code().sw(10, 5, 0), new Code().ebreak(),
            new Code().word(0), new Code().jr(0)};
        int[] values = {RAM + 2, 0, RAM + 1, 0x10020, 0x10020, 0, 0};
        int[] pcs = {0x10020, 0x10020, 0x10020, 0x10020, 0x10020, 0x10020, 0};
        for (int i = 0; i < faults.length; i++) {
            Rig rig = Rig.running(64, codes[i]).run(2);
            control("fault " + faults[i], rig, RAM + 960, null, null, null, null, null, null, 1 + faults[i], values[i],
                    pcs[i], 5);
        }
    }

    private static void startingClearsTheBlock() {
        Code c = new Code().call(5, 0, RAM + 960, 0, 0).li(5, RAM).li(6, RAM + 960).label("x").sw(5, 5, 0).addi(5, 5, 4)
                .branch(1, 5, 6, "x").call(5, 0, RAM + 64, 0, 0).command(0, 5, 9999, 0).command(1, 1, 0, 0).spin();
        Rig rig = Rig.running(64, c).run(800);
        Check.due("a word behind the break", rig.word(RAM + 500), RAM + 500);
        Check.due("the grants lie at the end", rig.board.process(0, 10), 2);
        rig.board.restart(0);
        int wrong = 0;
        for (int at = RAM; at < RAM + 960; at++) {
            wrong += rig.board.memory(at) == 0 ? 0 : 1;
        }
        Check.due("all of the block but control is 0", wrong, 0);
        Check.due("break", rig.board.process(0, 6), RAM + 64);
        Check.due("lowest", rig.board.process(0, 7), RAM + 960);
        Check.due("no grants", rig.board.process(0, 10), 0);
        for (int driver = 0; driver < 9; driver++) {
            Check.due("no grant of " + driver, rig.board.grant(0, driver), GrantBoard.NONE);
        }
        Check.due("audit", rig.board.audit(), 0);
    }

    private static void startingRegisters() {
        Code c = new Code().nop();
        for (int r = 1; r < 32; r++) {
            c.li(r, 1000 + r);
        }
        Rig rig = Rig.running(new App().main(5, 70).code(c.spin())).run(40);
        Check.due("x31", rig.board.register(0, 31), 1031);
        rig.board.restart(0);
        int[] want = new int[32];
        want[2] = RAM + 72;
        want[10] = 0x10020;
        want[11] = RAM;
        want[12] = 1024;
        want[13] = RAM + 72;
        for (int r = 0; r < 32; r++) {
            Check.due("x" + r, rig.board.register(0, r), want[r]);
        }
        Check.due("the pc, with its lowest bit 0", rig.board.process(0, 1), 0x10024);
    }

    /** No upcalls, no buffers, nothing is under way for it. */
    private static void startingEndsWhatIsUnderWay() {
        Code c = new Code().subscribe(3, 0, "f", 0).command(3, 1, 0, 0).command(0, 5, 100, 0).command(6, 2, 0, 10)
                .allowWrite(1, 1, RAM, 8).allowRead(1, 1, RAM, 8).command(1, 2, 8, 0).command(1, 1, 8, 0)
                .allowWrite(7, 0, RAM, 8).label("f").spin();
        Rig rig = Rig.running(64, c).run(80);
        rig.board.press(0, true);
        Check.due("an upcall waits", rig.board.process(0, 9), 1);
        int out = rig.board.count(3);
        rig.board.hold(0, true);
        rig.board.restart(0);
        Check.due("none waits", rig.board.process(0, 9), 0);
        Check.due("no read", rig.board.type('a'), 0);
        Check.due("no button is heard", rig.board.press(0, false), 1);
        rig.run(300);
        Check.due("no write", rig.board.count(3), out);
        Check.due("nothing came", rig.board.process(0, 9), 0);
        Check.due("no upcall", rig.board.count(6), 0);
        Check.due("ram", rig.word(RAM), 0);
    }

    private static void entry(String what, Rig rig, int process, int k, int address, int configuration) {
        Check.due(what + ": address of " + k, rig.board.entry(process, k, 0), address);
        Check.due(what + ": configuration of " + k, rig.board.entry(process, k, 1), configuration);
    }

    /** The app's region is 36 bytes here, and takes entries 0 and 1. */
    private static void ramRegions() {
        int[] sizes = {4, 8, 12, 16, 20, 32, 60, 64, 68, 128, 252, 256, 260, 512, 516, 1024, 1028, 2048, 4096, 8192, 8196};
        for (int size : sizes) {
            Rig rig = Rig.running(app(size));
            String what = "ram of " + size;
            entry(what, rig, 0, 0, 0x4000, 0);
            entry(what, rig, 0, 1, 0x4009, 13);
            if (size == 4) {
                entry(what, rig, 0, 2, 0x8000, 16 + 3);
                entry(what, rig, 0, 3, 0, 0);
            } else if (Integer.bitCount(size) == 1) {
                entry(what, rig, 0, 2, 0x8000 + size / 8 - 1, 24 + 3);
                entry(what, rig, 0, 3, 0, 0);
            } else {
                entry(what, rig, 0, 2, 0x8000, 0);
                entry(what, rig, 0, 3, 0x8000 + size / 4, 8 + 3);
            }
            entry(what, rig, 0, 4, 0, 0);
            Check.due(what + ": audit", rig.board.audit(), 0);
        }
        Rig rig = Rig.running(app(0));
        entry("ram of 0", rig, 0, 2, 0, 0);
        entry("ram of 0", rig, 0, 3, 0, 0);
        Check.due("ram of 0: audit", rig.board.audit(), 0);
    }

    /** A region of a power of 2 needs an address that is a multiple of it. */
    private static void appRegions() {
        int[] sizes = {36, 64, 68, 128, 256, 1024, 4096, 0x4000, 0x8000};
        for (int size : sizes) {
            Rig rig = Rig.running(app(64).total(size));
            if (Integer.bitCount(size) == 1) {
                entry("app of " + size, rig, 0, 0, 0x4000 + size / 8 - 1, 24 + 5);
                entry("app of " + size, rig, 0, 1, 0x8007, 24 + 3);
            } else {
                entry("app of " + size, rig, 0, 0, 0x4000, 0);
                entry("app of " + size, rig, 0, 1, 0x4000 + size / 4, 8 + 5);
                entry("app of " + size, rig, 0, 2, 0x8007, 24 + 3);
            }
            Check.due("audit", rig.board.audit(), 0);
        }
        Rig rig = Rig.with(App.plain(64), app(64).total(64), app(64).total(32 + 64), app(64).total(64));
        Check.due("four", rig.board.boot(0, 1, 0, false, 0), 4);
        entry("32 at 0x10000", rig, 0, 0, 0x4003, 29);
        entry("64 at 0x10020", rig, 1, 0, 0x10020 >> 2, 0);
        entry("64 at 0x10020", rig, 1, 1, 0x10060 >> 2, 13);
        entry("96 at 0x10060", rig, 2, 0, 0x10060 >> 2, 0);
        entry("96 at 0x10060", rig, 2, 1, 0x100C0 >> 2, 13);
        entry("64 at 0x100C0", rig, 3, 0, 0x100C0 >> 2 | 7, 29);
        Check.due("audit", rig.board.audit(), 0);
    }

    private static void regionsByTheBreak() {
        for (int size = 0; size <= 960; size += 4) {
            Rig rig = Rig.running(App.of(64, new Code().call(5, 0, RAM + size, 0, 0).spin()).total(100)).run(10);
            boolean one = Integer.bitCount(size) == 1;
            Check.due("break " + size + ": the third entry's mode", rig.board.entry(0, 2, 1) >> 3,
                    size == 0 ? 0 : size == 4 ? 2 : one ? 3 : 0);
            Check.due("break " + size + ": the fourth's", rig.board.entry(0, 3, 1), size == 0 || one ? 0 : 11);
            Check.due("break " + size + ": audit", rig.board.audit(), 0);
        }
    }

    /** All others have address and mode 0. */
    private static void otherEntries() {
        Rig rig = Rig.running(app(100));
        for (int k = 4; k < 16; k++) {
            entry("others", rig, 0, k, 0, 0);
        }
        rig = Rig.running(app(64).total(64));
        for (int k = 2; k < 16; k++) {
            entry("others", rig, 0, k, 0, 0);
        }
        rig = Rig.with(app(64).total(64), app(100));
        rig.board.boot(0, 1, 0, false, 0);
        for (int round = 0; round < 2; round++) {
            entry("of one with four", rig, 1, 3, 0x20464 >> 2, 11);
            entry("of one with two, asked behind it", rig, 0, 3, 0, 0);
            entry("of one with two, asked behind it", rig, 0, 2, 0, 0);
        }
    }

    /** Grants lie each below the one before; one that would go below the break is not made. */
    private static void breakMeetsLowest() {
        int control = RAM + 960;
        int[] sizes = {28, 80, 0, 20, 24, 32, 28, 36, 16};
        for (int driver = 0; driver < 9; driver++) {
            for (int less = -4; less <= 4; less += 4) {
                int at = control - sizes[driver] + less;
                if (driver != 2 && at <= control) {
                    App app = App.plain(64).storeNumber(1).code(new Code().call(5, 0, at, 0, 0)
                            .command(driver, driver == 1 || driver == 7 ? 3 : 1, 0, 0).spin());
                    Rig rig = Rig.running(app).run(20);
                    String what = "driver " + driver + ", the break at its grant and " + less;
                    Check.due(what, rig.board.process(0, 10), less <= 0 ? 1 : 0);
                    Check.due(what + ": lowest", rig.board.process(0, 7), less <= 0 ? control - sizes[driver] : control);
                    Check.due(what + ": FAIL 9", rig.board.register(0, 11) == 9 ? 1 : 0, less <= 0 ? 0 : 1);
                    Check.due(what + ": audit", rig.board.audit(), 0);
                }
            }
        }
        new Talk(64).command("a grant", 3, 1, 0, 0, 128)
                .ask("up to lowest", 5, 0, control - 20, 0, 0, 128)
                .ask("beyond it", 5, 0, control - 19, 0, 0, 0, 9)
                .command("no second grant", 8, 1, 0, 0, 0, 9)
                .command("the first is there", 3, 1, 1, 0, 128)
                .ask("16 less", 5, 1, -16, 0, 0, 129, control - 20)
                .command("then it is", 8, 1, 0, 0, 129, 0)
                .ask("no byte is left", 5, 1, 1, 0, 0, 0, 9).go();
    }
}

import java.util.Random;

/** Apps that do one thing after another at random, most of it sound, some of it odd; each has a favourite. */
final class RandomApp {
    private static final int[] ODD = {0, 1, -1, 2, 3, 4, 7, 8, 9, 15, 16, 17, 31, 32, 33, 255, 256, 1000, 100000, 100001,
        0x10000, 0x1EFFF, 0x1F000, 0x1FFFF, 0x20000, 0x20400, 0x2FFFF, 0x30000, 0x7FFFFFFF, 0x80000000, -4, -5};
    private static final int STORE = 0, CONSOLE = 1, POST = 2, MACHINE = 3, MEMORY = 4, WAITING = 5, FAVOURITES = 6;

    private final Random r;
    private final Code c = new Code();
    private final int favourite;
    private final int ram;

    private RandomApp(Random r) {
        this.r = r;
        favourite = r.nextInt(FAVOURITES + 2);
        ram = r.nextInt(12) == 0 ? r.nextInt(16500) : r.nextInt(6) == 0 ? r.nextInt(1600) : 64 + r.nextInt(440);
    }

    static App make(Random r) {
        return new RandomApp(r).app();
    }

    private App app() {
        App app = r.nextInt(4) == 0 ? App.plain(ram) : App.program(ram, r.nextInt(4) == 0 ? -1 : r.nextInt(3));
        if (r.nextInt(3) > 0) {
            app.name(r.nextInt(3) == 0 ? "a" : "app" + r.nextInt(5));
        }
        if (favourite == STORE || r.nextInt(3) > 0) {
            app.storeNumber(r.nextInt(10) == 0 ? -1 : r.nextInt(3));
        }
        if (r.nextInt(8) == 0) {
            app.permissions(r.nextInt(9), r.nextInt(), r.nextInt(9), -1, r.nextInt(9), 14);
        }
        if (r.nextInt(20) == 0) {
            app.flags(2 * r.nextInt(3));
        }
        if (r.nextInt(20) == 0) {
            app.spoilt();
        }
        if (r.nextInt(4) == 0) {
            app.total(1 << 10 + r.nextInt(3));
        }
        app.code(code());
        return r.nextInt(3) > 0 ? app.signed() : app;
    }

    private Code code() {
        c.mv(Code.S0, Code.A1);
        for (int i = r.nextInt(6); i > 0; i--) {
            setUp();
        }
        c.label("again");
        for (int i = 4 + r.nextInt(14); i > 0; i--) {
            action();
        }
        if (r.nextInt(4) == 0) {
            c.yieldWait();
        }
        c.j("again").label("f").sw(Code.S0, Code.A0, 0).addi(Code.S1, Code.S1, 1);
        if (r.nextInt(4) == 0) {
            action();
        }
        c.ret().label("data").text("app1app2app3app4a bc");
        return c.word(r.nextInt()).word(r.nextInt());
    }

    private int odd() {
        return r.nextInt(3) == 0 ? r.nextInt() : ODD[r.nextInt(ODD.length)];
    }

    private int small(int n) {
        return r.nextInt(25) == 0 ? odd() : r.nextInt(n);
    }

    private int driver() {
        switch (favourite) {
            case STORE:
                return r.nextInt(3) > 0 ? 5 : small(9);
            case CONSOLE:
                return r.nextInt(3) > 0 ? 1 : small(9);
            case POST:
                return r.nextInt(3) > 0 ? 7 : small(9);
            default:
                return small(9);
        }
    }

    /** Two or three instructions. */
    private void address(int rd) {
        switch (r.nextInt(14)) {
            case 0:
                c.li(rd, odd());
                break;
            case 1:
            case 2:
                c.la(rd, "data").addi(rd, rd, r.nextInt(20));
                break;
            case 3:
                c.li(rd, ram + r.nextInt(12) - 10).add(rd, rd, Code.S0);
                break;
            case 4:
                c.li(rd, 1024 - r.nextInt(200)).add(rd, rd, Code.S0);
                break;
            default:
                c.addi(rd, Code.S0, r.nextInt(60));
                break;
        }
    }

    private void setUp() {
        int driver = driver();
        switch (r.nextInt(3)) {
            case 0:
                c.subscribe(driver, r.nextInt(driver == 1 ? 3 : 1), "f", r.nextInt());
                break;
            case 1:
                allow(3, driver);
                break;
            default:
                allow(4, driver);
                break;
        }
    }

    private void allow(int call, int driver) {
        c.li(Code.A0, driver).li(Code.A1, driver == 1 ? small(3) : small(1));
        address(Code.A2);
        c.li(Code.A3, r.nextInt(20) == 0 ? odd() : r.nextInt(40)).li(Code.A4, call).ecall();
    }

    private void action() {
        int what = r.nextInt(20);
        if (favourite == MACHINE && r.nextInt(3) > 0) {
            what = 16;
        } else if (favourite == MEMORY && r.nextInt(2) > 0) {
            what = 12;
        } else if (favourite == WAITING && r.nextInt(3) > 0) {
            what = 13;
        } else if (favourite == STORE && r.nextInt(2) > 0) {
            what = 15;
        }
        switch (what) {
            case 0:
            case 1:
                setUp();
                break;
            case 10:
            case 11:
                if (r.nextInt(25) == 0) {
                    c.exit(small(2), r.nextInt());
                } else if (r.nextInt(8) == 0) {
                    c.call(odd(), odd(), odd(), odd(), odd());
                }
                break;
            case 12:
                memory();
                break;
            case 13:
            case 14:
                waiting();
                break;
            case 15:
                c.command(5, 1 + r.nextInt(3), r.nextInt(5), r.nextInt(34));
                break;
            case 16:
            case 17:
            case 18:
                instruction();
                break;
            default:
                command();
                break;
        }
    }

    private void command() {
        int driver = driver();
        int command = driver == 0 ? small(7) : driver == 4 || driver == 8 ? small(2) : small(4);
        c.command(driver, command, r.nextInt(12) == 0 ? odd() : r.nextInt(r.nextBoolean() ? 2 : 8),
                r.nextInt(12) == 0 ? odd() : r.nextInt(30));
    }

    private void memory() {
        int how = small(7);
        if (how == 0) {
            c.li(Code.A1, r.nextInt(1100)).add(Code.A1, Code.A1, Code.S0);
        } else {
            c.li(Code.A1, r.nextInt(30) == 0 ? odd() : r.nextInt(260) - 130);
        }
        c.li(Code.A0, how).li(Code.A4, 5).ecall();
    }

    private void waiting() {
        switch (r.nextInt(6)) {
            case 0:
                c.command(0, 5, r.nextInt(60), 0);
                if (r.nextInt(3) > 0) {
                    c.yieldFor(0, 0);
                }
                break;
            case 1:
                c.command(6, 1, r.nextInt(2), 0).yieldFor(6, 0);
                break;
            case 2:
                c.yieldFor(small(9), small(3));
                break;
            case 3:
                c.command(6, 2, r.nextInt(2), 1 + r.nextInt(50));
                break;
            default:
                c.li(Code.A0, r.nextInt(10) == 0 ? 1 : 0);
                address(Code.A1);
                c.li(Code.A4, 0).ecall();
                break;
        }
    }

    private void instruction() {
        int rd = 16 + r.nextInt(8);
        int rs = 16 + r.nextInt(8);
        int other = r.nextInt(4) == 0 ? r.nextInt(32) : 16 + r.nextInt(8);
        switch (r.nextInt(12)) {
            case 0:
                c.li(rd, r.nextBoolean() ? odd() : r.nextInt());
                break;
            case 1:
            case 2:
                c.word(Code.rType(0x33, r.nextInt(8), r.nextInt(3) == 0 ? 0 : 1, rd, rs, other));
                break;
            case 3:
                c.word(Code.iType(0x13, r.nextInt(8), rd, rs, r.nextInt(32)));
                break;
            case 4:
                address(rs);
                c.word(Code.iType(3, r.nextInt(6), rd, rs, r.nextInt(6)));
                break;
            case 5:
                address(rs);
                c.word(Code.sType(r.nextInt(3), rs, other, r.nextInt(6)));
                break;
            case 6:
                c.addi(24, Code.S0, 4 * r.nextInt(8)).word(Code.rType(0x2F, 2, 2 << 2 | r.nextInt(4), rd, 24, 0));
                if (r.nextBoolean()) {
                    c.nop();
                }
                c.word(Code.rType(0x2F, 2, 3 << 2 | r.nextInt(4), rs, 24, other));
                break;
            case 7:
                c.addi(24, Code.S0, 4 * r.nextInt(8) + (r.nextInt(12) == 0 ? 2 : 0))
                        .word(Code.rType(0x2F, 2, 4 * r.nextInt(8) << 2, rd, 24, other));
                break;
            case 8:
                halves();
                break;
            case 9:
                if (r.nextInt(6) == 0) {
                    c.word(r.nextInt());
                }
                break;
            case 10:
                c.word(Code.bType(r.nextInt(8) & ~2, rs, other, 8)).addi(rd, rd, 1);
                break;
            default:
                c.word(r.nextInt() & 0xFFFFF000 | rd << 7 | (r.nextBoolean() ? 0x37 : 0x17));
                break;
        }
    }

    /** Two halves: sums and moves, or now and then anything. */
    private void halves() {
        for (int i = 0; i < 2; i++) {
            int h = r.nextInt(0x10000);
            if (r.nextInt(5) > 0) {
                int[] forms = {0x4001, 0x0001, 0x8001, 0x9002, 0x6001};
                h = forms[r.nextInt(forms.length)] | h & 0x0C7C | 0x0800;
            } else if ((h & 3) == 3) {
                h = 1;
            }
            c.half(h);
        }
    }
}

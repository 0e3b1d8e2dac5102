import java.util.ArrayList;
import java.util.Arrays;
import java.util.List;
import java.util.Random;

/** Rule 7 and promise 25: whatever is called, nothing is thrown, audit() is 0, and the same calls answer the same. */
public final class RandomRunsTest {
    private static final int[] ODD = {0, 1, -1, 2, 3, 4, 7, 8, 9, 31, 32, 255, 256, 0x10000, 0x1FFFF, 0x20000,
        0x20040, 0x2FFFF, 0x30000, 0x7FFFFFFF, 0x80000000, 1000, 20000, 20001, 8192, 10000};

    public static void main(String[] args) {
        for (int seed = 0; seed < 400; seed++) {
            List<Integer> first = play(seed);
            List<Integer> second = play(seed);
            Check.holds("run " + seed + " answers the same twice", first.equals(second));
        }
        Check.finish();
    }

    private static int odd(Random r) {
        switch (r.nextInt(4)) {
            case 0:
                return r.nextInt(5);
            case 1:
                return r.nextInt();
            default:
                return ODD[r.nextInt(ODD.length)];
        }
    }

    private static int address(Random r, int base) {
        switch (r.nextInt(6)) {
            case 0:
                return 0x10000 + r.nextInt(400);
            case 1:
                return odd(r);
            default:
                return base + r.nextInt(300);
        }
    }

    private static void someCall(Random r, Code c, int base) {
        int driver = r.nextInt(20) == 0 ? odd(r) : r.nextInt(9);
        int small = r.nextInt(15) == 0 ? odd(r) : r.nextInt(3);
        switch (r.nextInt(12)) {
            case 0:
                c.call(0, r.nextInt(3), driver, small, 0);
                break;
            case 1:
                c.call(5, r.nextInt(7), r.nextBoolean() ? r.nextInt(400) - 200 : base + r.nextInt(1000), 0, 0);
                break;
            case 2:
            case 3:
                c.subscribe(driver, small, "f", r.nextInt());
                break;
            case 4:
                c.call(3, driver, small, address(r, base), r.nextInt(40));
                break;
            case 5:
                c.call(4, driver, small, address(r, base), r.nextInt(40));
                break;
            case 6:
                if (r.nextInt(6) == 0) {
                    c.exit(r.nextInt(3), r.nextInt());
                }
                break;
            case 7:
                c.call(odd(r), odd(r), odd(r), odd(r), odd(r));
                break;
            default:
                c.command(driver, r.nextInt(7), r.nextBoolean() ? r.nextInt(4) : odd(r), r.nextInt(40));
                break;
        }
    }

    private static Code code(Random r, int base) {
        Code c = new Code();
        for (int i = 0; i < 12; i++) {
            if (r.nextInt(12) == 0) {
                c.word(r.nextInt());
            } else if (r.nextInt(5) == 0) {
                c.li(5, address(r, base)).word(r.nextBoolean() ? Code.iType(3, r.nextInt(6), 6, 5, r.nextInt(4096))
                        : Code.sType(r.nextInt(3), 5, 6, r.nextInt(64)));
            } else {
                someCall(r, c, base);
            }
        }
        c.label("loop").yieldWait().j("loop").label("f");
        someCall(r, c, base);
        return c.ret();
    }

    private static App app(Random r, int process) {
        App app = App.program(r.nextInt(8) == 0 ? r.nextInt(17000) : r.nextInt(512), r.nextInt(3));
        if (r.nextBoolean()) {
            app.name("app" + r.nextInt(4));
        }
        if (r.nextInt(3) > 0) {
            app.storeNumber(r.nextInt(5) - 1);
        }
        if (r.nextInt(5) == 0) {
            app.permissions(r.nextInt(9), r.nextInt(), r.nextInt(9), -1);
        }
        app.code(code(r, 0x20000 + 1024 * process));
        return r.nextBoolean() ? app.signed() : app;
    }

    private static List<Integer> play(int seed) {
        Random r = new Random(seed);
        App[] apps = new App[1 + r.nextInt(4)];
        Arrays.setAll(apps, i -> app(r, i));
        Rig rig = Rig.with(apps);
        GrantBoard b = rig.board;
        List<Integer> answers = new ArrayList<>();
        answers.add(b.boot(r.nextInt(3), 1 + r.nextInt(10), r.nextInt(3), r.nextInt(8) == 0, r.nextInt()));
        for (int i = 0; i < 180; i++) {
            answers.add(r.nextInt(3) == 0 ? likely(r, b) : anything(r, b));
            Check.due("run " + seed + " audit", b.audit(), 0);
        }
        return answers;
    }

    private static int likely(Random r, GrantBoard b) {
        switch (r.nextInt(8)) {
            case 0:
                return b.press(r.nextInt(4), r.nextBoolean());
            case 1:
                return b.type(r.nextInt(256));
            case 2:
                return b.cut(r.nextInt(40));
            case 3:
                return b.boot(r.nextInt(3), 1 + r.nextInt(5), r.nextInt(4), false, r.nextInt());
            case 4:
                return b.restart(r.nextInt(4));
            default:
                return b.run(1 + r.nextInt(200));
        }
    }

    private static int anything(Random r, GrantBoard b) {
        switch (r.nextInt(24)) {
            case 0:
                return b.feed(odd(r), odd(r), odd(r), odd(r), odd(r));
            case 1:
                return b.end(odd(r));
            case 2:
                return r.nextInt(4) == 0 ? b.burn(odd(r)) : 0;
            case 3:
                return b.boot(odd(r), odd(r), odd(r), r.nextBoolean(), odd(r));
            case 4:
                return r.nextInt(6) == 0 ? b.off() : 0;
            case 5:
                return b.cut(odd(r));
            case 6:
                return b.run(odd(r));
            case 7:
                return b.press(odd(r), r.nextBoolean());
            case 8:
                return b.type(odd(r));
            case 9:
                return b.level(odd(r), odd(r));
            case 10:
                return b.hold(odd(r), r.nextInt(3) == 0);
            case 11:
                return b.restart(odd(r));
            case 12:
                return b.count(odd(r));
            case 13:
                return b.process(r.nextInt(4), odd(r));
            case 14:
                return b.register(odd(r), odd(r));
            case 15:
                return b.memory(odd(r));
            case 16:
                return b.entry(r.nextInt(4), odd(r), odd(r));
            case 17:
                return b.upcall(r.nextInt(4), odd(r), odd(r));
            case 18:
                return b.grant(odd(r), odd(r));
            case 19:
                return b.out(odd(r));
            case 20:
                return b.lamp(odd(r));
            case 21:
                return b.event(odd(r), odd(r));
            case 22:
                return b.stored(odd(r), odd(r), odd(r));
            default:
                return b.process(odd(r), odd(r));
        }
    }
}

import java.util.ArrayList;
import java.util.List;
import java.util.function.Consumer;

/**
 * One process that does system calls in order. As each is done, its answer is read from a0 .. a3 and compared; between
 * two of them a test may look at the board or move the world. The app is 8192 bytes long, so that its end is known.
 */
final class Talk {
    static final int APP = 0x10000, APP_END = 0x12000, RAM = 0x20000;
    /** A function that upcalls may go to; it returns at once. */
    static final int FUNCTION = 0x10000 + 32 + 4;

    private final int ram;
    private final Code code = new Code().j("main").ret().label("main");
    private final App app;
    private final List<Consumer<Rig>> steps = new ArrayList<>();

    Talk(int ram) {
        this(ram, App.plain(ram));
    }

    Talk(int ram, App app) {
        this.ram = ram;
        this.app = app;
    }

    int breakAt() {
        return RAM + (ram + 3 & -4);
    }

    int control() {
        int size = 1024;
        while (size < ram + 512) {
            size *= 2;
        }
        return RAM + size - 64;
    }

    /** What is due may be shorter than a0 .. a3, and a null is not looked at. */
    Talk ask(String what, int call, int a0, int a1, int a2, int a3, Integer... due) {
        code.call(call, a0, a1, a2, a3);
        steps.add(rig -> {
            nextCall(rig);
            for (int i = 0; i < due.length; i++) {
                if (due[i] != null) {
                    Check.due(what + " a" + i, rig.board.register(0, 10 + i), due[i]);
                }
            }
            Check.due(what + ": audit", rig.board.audit(), 0);
        });
        return this;
    }

    Talk command(String what, int driver, int command, int v, int w, Integer... due) {
        return ask(what, 2, driver, command, v, w, due);
    }

    /** Subscribes to FUNCTION, which must be so. */
    Talk subscribe(int driver, int number) {
        return ask("subscribe", 1, driver, number, FUNCTION, 0, 130);
    }

    Talk allowRead(int driver, int buffer, int address, int size) {
        return ask("allow for reading", 4, driver, buffer, address, size, 130);
    }

    Talk allowWrite(int driver, int buffer, int address, int size) {
        return ask("allow for writing", 3, driver, buffer, address, size, 130);
    }

    /** Instructions between two calls. */
    Talk code(Consumer<Code> more) {
        more.accept(code);
        return this;
    }

    /** What a test does on the board once the calls so far are done. */
    Talk then(Consumer<Rig> step) {
        steps.add(step);
        return this;
    }

    /** Looks at the upcall that came last of those that wait: driver, number, three numbers. */
    Talk lastUpcall(String what, int... due) {
        return then(rig -> {
            int k = rig.board.process(0, 9) - 1;
            for (int i = 0; i < due.length; i++) {
                Check.due(what + ": upcall " + i, rig.board.upcall(0, k, i), due[i]);
            }
        });
    }

    Talk waiting(String what, int n) {
        return then(rig -> Check.due(what + ": upcalls that wait", rig.board.process(0, 9), n));
    }

    /** Where the code that is added next will lie. */
    int here() {
        return APP + app.headSize() + code.here();
    }

    App app() {
        return app.code(code.spin()).total(APP_END - APP);
    }

    Rig go() {
        Rig rig = Rig.with(app());
        Check.due("boot", rig.board.boot(0, 1000, 0, false, 0), 1);
        return play(rig);
    }

    /** On a board that is on, with the app as its process 0. */
    Rig play(Rig rig) {
        for (Consumer<Rig> step : steps) {
            step.accept(rig);
        }
        return rig;
    }

    private static void nextCall(Rig rig) {
        int before = rig.board.count(5);
        int ticks = 0;
        while (rig.board.count(5) == before && ticks < 2000) {
            rig.board.run(1);
            ticks++;
        }
        Check.due("a call was done", rig.board.count(5), before + 1);
    }
}

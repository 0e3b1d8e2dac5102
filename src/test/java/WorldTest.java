/** Promises 8 to 13: the world's calls. */
public final class WorldTest {
    private static final int NONE = GrantBoard.NONE, OUTSIDE = GrantBoard.OUTSIDE, STATE = GrantBoard.STATE;
    private static final int RAM = 0x20000;

    public static void main(String[] args) {
        run();
        press();
        type();
        level();
        hold();
        restart();
        Check.finish();
    }

    private static void run() {
        GrantBoard off = new GrantBoard();
        Check.due("off", off.run(1), STATE);
        Check.due("off, outside", off.run(0), STATE);
        Rig rig = Rig.running(64, new Code().spin());
        GrantBoard b = rig.board;
        Check.due("0", b.run(0), OUTSIDE);
        Check.due("-1", b.run(-1), OUTSIDE);
        Check.due("20001", b.run(20001), OUTSIDE);
        Check.due("least", b.run(0x80000000), OUTSIDE);
        Check.due("time stays", b.count(2), 0);
        Check.due("1", b.run(1), 1);
        Check.due("20000", b.run(20000), 20000);
        Check.due("time", b.count(2), 20001);
        Check.due("an instruction each", b.count(10), 20001);
        b.cut(0);
        Check.due("no flash write, no loss", b.run(100), 100);
        Rig lost = Rig.running(App.plain(64).storeNumber(1).code(new Code().command(5, 2, 3, 0).spin()));
        lost.board.cut(0);
        Check.due("up to it", lost.board.run(5), 5);
        Check.due("lost", lost.board.run(5), GrantBoard.LOST);
        Check.due("off", lost.board.count(0), 0);
        Check.due("time is lost", lost.board.count(2), 0);
        Check.due("ram is 0", lost.word(RAM + 1024 - 60), 0);
        Check.due("then", lost.board.run(5), STATE);
        lost.event("the call is noted", 0, 0, 0, 2);
        Check.due("with its time", lost.board.event(0, 0), 6);
    }

    private static void press() {
        GrantBoard b = new GrantBoard();
        Check.due("4", b.press(4, true), OUTSIDE);
        Check.due("-1", b.press(-1, true), OUTSIDE);
        for (int k = 0; k < 4; k++) {
            Check.due("up already", b.press(k, false), 0);
            Check.due("down", b.press(k, true), 1);
            Check.due("down already", b.press(k, true), 0);
        }
        Check.due("up", b.press(2, false), 1);
        Rig rig = Rig.with(App.of(64, new Code().command(3, 3, 3, 0).spin()));
        rig.board.press(3, true);
        rig.boot().run(10);
        Check.due("a button that went down when off", rig.board.register(0, 11), 1);
        rig.board.off();
        Check.due("off", rig.board.press(3, true), 0);
        Check.due("off", rig.board.press(3, false), 1);
        rig.boot().run(10);
        Check.due("up again", rig.board.register(0, 11), 0);
        Check.due("nobody heard", rig.board.count(6), 0);
    }

    private static void type() {
        GrantBoard off = new GrantBoard();
        Check.due("off", off.type(5), STATE);
        Check.due("off, outside", off.type(256), STATE);
        Rig rig = Rig.running(64, new Code().allowWrite(1, 1, RAM, 2).command(1, 2, 2, 0).spin());
        Check.due("nobody reads", rig.board.type(0), 0);
        rig.run(20);
        Check.due("256", rig.board.type(256), OUTSIDE);
        Check.due("-1", rig.board.type(-1), OUTSIDE);
        Check.due("255", rig.board.type(255), 1);
        Check.due("0", rig.board.type(0), 1);
        Check.due("no more", rig.board.type(0), 0);
        Check.due("there", rig.board.memory(RAM), 255);
    }

    private static void level() {
        Rig rig = Rig.with(App.of(64, new Code().command(6, 2, 1, 30).yieldFor(6, 0).spin()));
        Check.due("2", rig.board.level(2, 5), OUTSIDE);
        Check.due("-1", rig.board.level(-1, 5), OUTSIDE);
        Check.due("when off", rig.board.level(1, -5), 1);
        Check.due("the same again", rig.board.level(1, -5), 1);
        Check.due("the other", rig.board.level(0, 0x80000000), 1);
        rig.boot().run(40);
        Check.due("told", rig.board.register(0, 11), -5);
    }

    private static void hold() {
        GrantBoard off = new GrantBoard();
        Check.due("off", off.hold(0, true), STATE);
        Rig rig = Rig.running(64, new Code().label("x").addi(5, 5, 1).j("x"));
        GrantBoard b = rig.board;
        Check.due("1", b.hold(1, true), NONE);
        Check.due("-1", b.hold(-1, true), NONE);
        Check.due("not held", b.hold(0, false), 0);
        Check.due("held", b.hold(0, true), 1);
        Check.due("held already", b.hold(0, true), 0);
        rig.state("held", 0, 9);
        rig.run(10);
        Check.due("does nothing", b.register(0, 5), 0);
        Check.due("not any more", b.hold(0, false), 1);
        rig.state("ready", 0, 1);
        rig.run(10);
        Check.due("goes on", b.register(0, 5), 5);
        b.hold(0, true);
        b.off();
        rig.boot();
        rig.state("not held after a boot", 0, 1);
    }

    private static void restart() {
        GrantBoard off = new GrantBoard();
        Check.due("off", off.restart(0), STATE);
        Rig rig = Rig.with(App.of(64, new Code().li(5, 7).li(2, 0).spin()),
                App.of(64, new Code().sw(Code.A1, Code.SP, 0).exit(0, 9)), App.of(64, new Code().ebreak()));
        rig.board.boot(0, 1, 0, false, 0);
        GrantBoard b = rig.board;
        rig.run(30);
        Check.due("3", b.restart(3), NONE);
        Check.due("-1", b.restart(-1), NONE);
        Check.due("restart", b.restart(0), 1);
        Check.due("registers", b.register(0, 5), 0);
        Check.due("x2", b.register(0, 2), RAM + 64);
        Check.due("pc", b.process(0, 1), b.process(0, 2) + 32);
        rig.event("by the maker", 0, 0, 3, 1);
        Check.due("its time", b.event(0, 0), 30);
        rig.state("ended", 1, 4);
        b.hold(1, true);
        rig.state("ended and held", 1, 12);
        Check.due("restart", b.restart(1), 1);
        rig.state("it stays held", 1, 9);
        Check.due("the block is 0", rig.word(RAM + 1024), 0);
        rig.state("faulted", 2, 5);
        Check.due("restart", b.restart(2), 1);
        rig.state("ready", 2, 1);
        Check.due("again", b.restart(2), 1);
        Check.due("restarts", b.process(2, 8), 2);
        Check.due("in all", b.count(8), 4);
    }
}

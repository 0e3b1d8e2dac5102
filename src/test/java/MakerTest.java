/** Promises 1 to 7: a new object and the maker's calls. */
public final class MakerTest {
    public static void main(String[] args) {
        newBoard();
        feedAndEnd();
        tapeLimit();
        burn();
        boot();
        bootClearsLamps();
        off();
        cut();
        cutHalfErases();
        Check.finish();
    }

    private static void newBoard() {
        GrantBoard b = new GrantBoard();
        Check.due("new: on", b.count(0), 0);
        for (int what = 1; what <= 11; what++) {
            Check.due("new: count", b.count(what), 0);
        }
        Check.due("new: tape", b.end(1), GrantBoard.OUTSIDE);
        Check.due("new: out", b.out(0), GrantBoard.NONE);
        Check.due("new: flash", b.memory(0x10000), 255);
        Check.due("new: flash end", b.memory(0x1FFFF), 255);
        Check.due("new: ram", b.memory(0x20000), 0);
        Check.due("new: stored", b.stored(1, 1, -1), GrantBoard.NONE);
    }

    private static void feedAndEnd() {
        GrantBoard b = new GrantBoard();
        Check.due("feed", b.feed(0x01020304, 0x05060708, -1, 0, 0x80000000), 20);
        Check.due("end", b.end(9), 9);
        Check.due("feed behind", b.feed(0x11121314, 0, 0, 0, 0), 29);
        Check.due("end below 0", b.end(-1), GrantBoard.OUTSIDE);
        Check.due("end beyond", b.end(30), GrantBoard.OUTSIDE);
        Check.due("end all", b.end(29), 29);
        Check.due("burn", b.burn(0x10001), 29);
        int[] want = {255, 1, 2, 3, 4, 5, 6, 7, 8, 255, 0x11, 0x12, 0x13, 0x14, 0};
        for (int i = 0; i < want.length; i++) {
            Check.due("burnt " + i, b.memory(0x10000 + i), want[i]);
        }
        Check.due("tape empty", b.end(1), GrantBoard.OUTSIDE);
        Check.due("end of an empty one", b.end(0), 0);
        b.feed(1, 2, 3, 4, 5);
        Check.due("end 0", b.end(0), 0);
        Check.due("empty", b.burn(0x10000), 0);
    }

    private static void tapeLimit() {
        GrantBoard b = new GrantBoard();
        for (int i = 1; i <= 409; i++) {
            Check.due("feed", b.feed(i, i, i, i, i), 20 * i);
        }
        Check.due("feed beyond", b.feed(0, 0, 0, 0, 0), GrantBoard.NONE);
        Check.due("tape as it was", b.end(8180), 8180);
        Check.due("end", b.end(8173), 8173);
        Check.due("one too many", b.feed(0, 0, 0, 0, 0), GrantBoard.NONE);
        Check.due("end", b.end(8172), 8172);
        Check.due("full", b.feed(7, 7, 7, 7, 7), 8192);
        Check.due("burn all", b.burn(0x1E000), 8192);
        Check.due("last", b.memory(0x1FFFF), 7);
    }

    private static void burn() {
        GrantBoard b = new GrantBoard();
        Check.due("empty low", b.burn(0xFFFF), GrantBoard.OUTSIDE);
        Check.due("empty first", b.burn(0x10000), 0);
        Check.due("empty last", b.burn(0x20000), 0);
        Check.due("empty high", b.burn(0x20001), GrantBoard.OUTSIDE);
        Check.due("empty negative", b.burn(-1), GrantBoard.OUTSIDE);
        b.feed(1, 1, 1, 1, 1);
        Check.due("too far", b.burn(0x20000 - 19), GrantBoard.OUTSIDE);
        Check.due("nothing changed", b.memory(0x1FFFF), 255);
        Check.due("tape is empty then", b.end(1), GrantBoard.OUTSIDE);
        b.feed(1, 1, 1, 1, 1);
        Check.due("before flash", b.burn(0x10000 - 1), GrantBoard.OUTSIDE);
        b.feed(1, 1, 1, 1, 1);
        Check.due("from high", b.burn(0x7FFFFFFF), GrantBoard.OUTSIDE);
        b.feed(1, 1, 1, 1, 1);
        Check.due("at the end", b.burn(0x20000 - 20), 20);
        Check.due("burn is no flash write", b.count(4), 0);
        b.cut(0);
        b.feed(0, 0, 0, 0, 0);
        Check.due("power stays for burn", b.burn(0x10000), 20);
        b.cut(-1);
        b.boot(0, 1, 0, false, 0);
        b.feed(1, 1, 1, 1, 1);
        Check.due("while on", b.burn(0x10000), GrantBoard.STATE);
        Check.due("tape is empty also then", b.end(1), GrantBoard.OUTSIDE);
        Check.due("while on, outside", b.burn(0), GrantBoard.STATE);
    }

    private static void boot() {
        GrantBoard b = new GrantBoard();
        Check.due("scheduler low", b.boot(-1, 1, 0, false, 0), GrantBoard.OUTSIDE);
        Check.due("scheduler high", b.boot(3, 1, 0, false, 0), GrantBoard.OUTSIDE);
        Check.due("slice low", b.boot(0, 0, 0, false, 0), GrantBoard.OUTSIDE);
        Check.due("slice high", b.boot(0, 1001, 0, false, 0), GrantBoard.OUTSIDE);
        Check.due("limit low", b.boot(0, 1, -1, false, 0), GrantBoard.OUTSIDE);
        Check.due("limit high", b.boot(0, 1, 101, false, 0), GrantBoard.OUTSIDE);
        Check.due("still off", b.count(0), 0);
        Check.due("boot", b.boot(2, 1000, 100, true, -1), 0);
        Check.due("on", b.count(0), 1);
        Check.due("formatted", b.memory(0x1F003), 0x4B);
        Check.due("formatted", b.memory(0x1F002), 0x56);
        Check.due("two writes", b.count(4), 2);
        Check.due("again", b.boot(2, 1000, 100, true, -1), GrantBoard.STATE);
        Check.due("again, outside", b.boot(9, 0, 0, true, -1), GrantBoard.STATE);
        b.off();
        Check.due("boot twice", b.boot(0, 1, 0, false, 0), 0);
        Check.due("nothing written", b.count(4), 2);

        Rig rig = Rig.with(App.plain(100).code(new Code().spin()), App.plain(100).code(new Code().spin()));
        Check.due("two apps", rig.board.boot(1, 1, 0, false, 0), 2);
        Check.due("two processes", rig.board.count(1), 2);
    }

    private static void bootClearsLamps() {
        Rig rig = Rig.running(64, new Code().command(2, 1, 2, 0).spin());
        rig.run(10);
        Check.due("lamp", rig.board.lamp(2), 1);
        rig.board.press(1, true);
        rig.board.off();
        Check.due("lamp stays when off", rig.board.lamp(2), 1);
        rig.board.boot(0, 1, 0, false, 0);
        Check.due("lamp off at boot", rig.board.lamp(2), 0);
        Check.due("button stays", rig.board.press(1, true), 0);
        rig.run(20);
        Check.due("lamp", rig.board.lamp(2), 1);
        rig.board.off();
        rig.burnWords(0x1F000, 0, 0);
        rig.board.cut(0);
        Check.due("lost", rig.board.boot(0, 1, 0, false, 0), GrantBoard.LOST);
        Check.due("lamps go off ahead of the store", rig.board.lamp(2), 0);
    }

    private static void off() {
        Rig rig = Rig.running(64, new Code().li(Code.T0, 77).sw(Code.A1, Code.T0, 0).spin());
        rig.run(5);
        GrantBoard b = rig.board;
        Check.due("ram", b.memory(0x20000), 77);
        Check.due("off", b.off(), 1);
        Check.due("ram is 0", b.memory(0x20000), 0);
        Check.due("control is 0", rig.word(0x20000 + 1024 - 60), 0);
        Check.due("no process", b.count(1), 0);
        Check.due("no time", b.count(2), 0);
        Check.due("instructions stay", b.count(10), 5);
        Check.due("off again", b.off(), GrantBoard.STATE);
        Check.due("process", b.process(0, 0), GrantBoard.STATE);
        Check.due("audit", b.audit(), 0);
    }

    private static void cut() {
        GrantBoard b = new GrantBoard();
        Check.due("low", b.cut(-2), GrantBoard.OUTSIDE);
        Check.due("high", b.cut(10001), GrantBoard.OUTSIDE);
        Check.due("highest", b.cut(10000), 1);
        Check.due("0", b.cut(0), 1);
        Check.due("stays", b.cut(-1), 1);
        Check.due("boot", b.boot(0, 1, 0, false, 0), 0);
        Check.due("while on", b.cut(0), 1);
        b.off();
        b.feed(0, 0, 0, 0, 0);
        b.burn(0x1F000);
        Check.due("it stays set over off", b.boot(0, 1, 0, false, 0), GrantBoard.LOST);
        Check.due("off", b.count(0), 0);
        Check.due("writes done", b.count(4), 2);
        Check.due("nothing is set any more", b.boot(0, 1, 0, false, 0), 0);
        b.off();
        b.feed(0, 0, 0, 0, 0);
        b.burn(0x1F000);
        b.cut(2);
        Check.due("two writes go", b.boot(0, 1, 0, false, 0), 0);
        b.off();
        b.feed(0, 0, 0, 0, 0);
        b.burn(0x1F000);
        Check.due("the third does not", b.boot(0, 1, 0, false, 0), GrantBoard.LOST);
    }

    private static void cutHalfErases() {
        Rig rig = new Rig();
        GrantBoard b = rig.board;
        byte[] zeros = new byte[2048];
        rig.burn(0x1F000, zeros);
        b.cut(0);
        Check.due("lost", b.boot(0, 1, 0, false, 0), GrantBoard.LOST);
        Check.due("first half", b.memory(0x1F000), 255);
        Check.due("first half's end", b.memory(0x1F3FF), 255);
        Check.due("second half", b.memory(0x1F400), 0);
        Check.due("its end", b.memory(0x1F7FF), 0);
        b.cut(1);
        Check.due("lost", b.boot(0, 1, 0, false, 0), GrantBoard.LOST);
        Check.due("erased", b.memory(0x1F7FF), 255);
        Check.due("no word", b.memory(0x1F000), 255);
        Check.due("one write", b.count(4), 1);
    }
}

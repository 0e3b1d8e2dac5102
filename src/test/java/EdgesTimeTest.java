/** The time and the counts at the end of their 32 bits, which Inside has to set. */
public final class EdgesTimeTest {
    private static final int MIN = 0x80000000, MAX = 0x7FFFFFFF;

    public static void main(String[] args) {
        timeWraps();
        multiplesWithoutSign();
        alarmsOverTheEnd();
        samplersOverTheEnd();
        writesOverTheEnd();
        countsWrap();
        Check.finish();
    }

    private static App looping() {
        return App.plain(64).code(new Code().half(0x0285).half(0xBFFD));
    }

    private static void timeWraps() {
        for (int scheduler = 0; scheduler < 3; scheduler++) {
            Rig rig = Rig.with(looping(), looping());
            rig.board.boot(scheduler, 3, 0, false, 0);
            Inside.setTime(rig.board, MAX);
            rig.run(1);
            Check.due("the greatest with a sign is not the end", rig.board.count(2), MIN);
            Inside.setTime(rig.board, -2);
            rig.run(1);
            Check.due("all ones", rig.board.count(2), -1);
            rig.run(1);
            Check.due("then 0", rig.board.count(2), 0);
            rig.run(1);
            Check.due("then 1", rig.board.count(2), 1);
            Check.due("an instruction in each", rig.board.count(10), 4);
        }
    }

    /** 64 * SLICE: signs not counted, TIME as without sign. */
    private static void multiplesWithoutSign() {
        int[] slices = {1, 3, 7, 1000};
        for (int slice : slices) {
            long step = 64L * slice;
            long[] near = {0x7FFFFFFFL / step * step, (0x7FFFFFFFL / step + 1) * step, 0xFFFFFFFFL / step * step};
            for (long multiple : near) {
                Rig rig = Rig.with(looping(), looping());
                rig.board.boot(2, slice, 0, false, 0);
                rig.run(3 * slice);
                Check.due("slice " + slice + ": a level", rig.board.process(0, 12), 1);
                Inside.setTime(rig.board, (int) multiple - 2);
                rig.run(1);
                Check.due("before " + multiple, rig.board.process(0, 12), 1);
                rig.run(1);
                Check.due("at " + multiple, rig.board.count(2), (int) multiple);
                Check.due("at " + multiple, rig.board.process(0, 12), 0);
            }
        }
        Rig rig = Rig.with(looping(), looping());
        rig.board.boot(2, 3, 0, false, 0);
        rig.run(13);
        Inside.setTime(rig.board, -(64 * 3) - 1);
        rig.run(1);
        Check.due("a multiple with sign, but none without", rig.board.process(0, 12), 2);
        Inside.setTime(rig.board, -1);
        rig.run(1);
        Check.due("0 is a multiple", rig.board.process(0, 12), 0);
    }

    private static void alarmsOverTheEnd() {
        int[] starts = {-30, -25, MAX - 25, MIN - 30};
        for (int start : starts) {
            Rig rig = Rig.running(64, new Code().subscribe(0, 0, "f", 0).command(0, 5, 40, 0).label("f").spin());
            Inside.setTime(rig.board, start);
            rig.run(13 + 39);
            Check.due("not yet", rig.board.process(0, 9), 0);
            rig.run(1);
            Check.due("now", rig.board.process(0, 9), 1);
            Check.due("the time", rig.board.upcall(0, 0, 2), start + 13 + 40);
            Check.due("reference + length", rig.board.upcall(0, 0, 3), start + 13 + 40);
        }
    }

    private static void samplersOverTheEnd() {
        Rig rig = Rig.running(64, new Code().subscribe(6, 0, "f", 0).command(6, 2, 1, 9).label("f").spin());
        Inside.setTime(rig.board, -20);
        rig.run(13 + 8);
        Check.due("not yet", rig.board.process(0, 9), 0);
        rig.run(1);
        Check.due("now", rig.board.process(0, 9), 1);
        rig.run(9);
        Check.due("and again", rig.board.process(0, 9), 2);
    }

    /** In each tick whose time is a multiple of 8; the write is asked for at the time -16, behind the drivers. */
    private static void writesOverTheEnd() {
        Rig rig = Rig.running(64, new Code().allowRead(1, 1, 0x20000, 5).command(1, 1, 5, 0).spin());
        Inside.setTime(rig.board, -29);
        rig.run(20);
        int[] times = {-9, -8, -1, 0, 7, 8};
        int[] bytes = {0, 1, 1, 2, 2, 3};
        for (int i = 0; i < times.length; i++) {
            if (times[i] > rig.board.count(2)) {
                rig.run(times[i] - rig.board.count(2));
            }
            Check.due("time", rig.board.count(2), times[i]);
            Check.due("bytes at " + times[i], rig.board.count(3), bytes[i]);
        }
    }

    /** 3 to 11: since the beginning, over all boots, wrapping. */
    private static void countsWrap() {
        Code c = new Code().subscribe(6, 0, "f", 0).allowRead(1, 1, 0x20000, 1).command(1, 1, 1, 0).allowRead(5, 0, 0x20000, 0)
                .command(5, 2, 1, 0);
        for (int i = 0; i < 11; i++) {
            c.command(6, 1, 0, 0);
        }
        c.yieldFor(6, 0).label("f").ebreak();
        Rig plain = counted(c, 0);
        int[] ends = {MAX, -1};
        for (int end : ends) {
            Rig rig = counted(c, end);
            for (int what = 3; what <= 11; what++) {
                int grown = plain.board.count(what);
                Check.holds("count " + what + " grows", grown > 0);
                Check.due("count " + what + " wraps", rig.board.count(what), end + grown);
            }
        }
    }

    private static Rig counted(Code c, int from) {
        Rig rig = Rig.with(App.plain(64).storeNumber(1).code(c));
        for (int what = 3; what <= 11; what++) {
            Inside.setCount(rig.board, what, from);
        }
        rig.board.boot(0, 1000, 1, false, 0);
        rig.run(300);
        return rig;
    }
}

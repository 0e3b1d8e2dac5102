/** Part 6: SLICE, levels and places at their bounds, who has the turn, limits of restarts, the order within a tick. */
public final class EdgesTurnsTest {
    private static final int RAM = 0x20000;

    public static void main(String[] args) {
        roundRobinBySlices();
        roundRobinRound();
        roundRobinCutShort();
        nobodyAtFirst();
        priorityByNumbers();
        priorityTurns();
        levelsBySlices();
        levelTwoAtMost();
        levelsUsedInParts();
        levelsPlaces();
        levelsEightPlaces();
        levelsTurnOverJustAsItCannotRun();
        levelsForgottenAtTheMultiple();
        noneCanRun();
        noneOfEightCanRun();
        whoCanRun();
        startingKeepsLevelAndTurn();
        limits();
        exitAndRestartCountForTheLimit();
        timeGoesOn();
        driversByRisingNumbers();
        oneInstructionATick();
        Check.finish();
    }

    /** Two halves, for ever: one more in x5, and back. */
    private static App looping() {
        return App.plain(64).code(new Code().half(0x0285).half(0xBFFD));
    }

    private static Rig loops(int n, int scheduler, int slice) {
        App[] apps = new App[n];
        java.util.Arrays.setAll(apps, i -> looping());
        Rig rig = Rig.with(apps);
        Check.due("boot", rig.board.boot(scheduler, slice, 0, false, 0), n);
        return rig;
    }

    private static int did(Rig rig, int process) {
        return 2 * rig.board.register(process, 5) - (rig.board.process(process, 1) % 4 == 0 ? 0 : 1);
    }

    private static void did(String what, Rig rig, int... want) {
        for (int i = 0; i < want.length; i++) {
            Check.due(what + ": instructions of " + i, did(rig, i), want[i]);
        }
    }

    private static void turn(String what, Rig rig, int who, int n) {
        for (int i = 0; i < n; i++) {
            Check.due(what + ": turn of " + i, rig.board.process(i, 14), i == who ? 1 : 0);
        }
    }

    private static void levels(String what, Rig rig, int... want) {
        for (int i = 0; i < want.length; i++) {
            Check.due(what + ": level of " + i, rig.board.process(i, 12), want[i]);
        }
    }

    /** As long as it did fewer than SLICE instructions. */
    private static void roundRobinBySlices() {
        int[] slices = {1, 2, 7, 999, 1000};
        for (int slice : slices) {
            Rig rig = loops(2, 0, slice);
            if (slice > 1) {
                rig.run(slice - 1);
                did("one less than the slice", rig, slice - 1, 0);
                rig.run(1);
            } else {
                rig.run(1);
            }
            did("the slice", rig, slice, 0);
            turn("the slice", rig, 0, 2);
            rig.run(1);
            did("one more", rig, slice, 1);
            turn("one more", rig, 1, 2);
            rig.run(slice);
            did("round", rig, slice + 1, slice);
            turn("round", rig, 0, 2);
        }
    }

    private static void roundRobinRound() {
        Rig rig = loops(8, 0, 1);
        for (int i = 0; i < 17; i++) {
            rig.run(1);
            turn("tick " + i, rig, i % 8, 8);
        }
        rig = loops(3, 0, 2);
        rig.board.hold(0, true);
        rig.board.hold(1, true);
        rig.run(5);
        did("the next that can run, then itself", rig, 0, 0, 5);
        rig.board.hold(0, false);
        rig.run(1);
        did("its turn goes on", rig, 0, 0, 6);
        rig.run(1);
        turn("behind the last is the first", rig, 0, 3);
    }

    private static void roundRobinCutShort() {
        Rig rig = loops(2, 0, 10);
        rig.run(3);
        rig.board.hold(0, true);
        rig.run(4);
        did("the turn of one that cannot run is over", rig, 3, 4);
        rig.board.hold(0, false);
        rig.run(6);
        did("the other's turn goes on", rig, 3, 10);
        rig.run(10);
        did("then a whole turn", rig, 13, 10);
        rig.run(1);
        turn("and the other", rig, 1, 2);
    }

    private static void nobodyAtFirst() {
        for (int scheduler = 0; scheduler < 3; scheduler++) {
            Rig rig = loops(3, scheduler, 5);
            turn("at first", rig, -1, 3);
            rig.run(1);
            turn("process 0 is the first", rig, 0, 3);
        }
        Rig rig = loops(3, 0, 5);
        rig.board.hold(0, true);
        rig.run(1);
        turn("0 cannot", rig, 1, 3);
    }

    private static void priorityByNumbers() {
        Rig rig = loops(3, 1, 1);
        rig.run(50);
        did("the least number, whatever SLICE is", rig, 50, 0, 0);
        rig.board.hold(0, true);
        rig.run(10);
        did("the next", rig, 50, 10, 0);
        rig.board.hold(1, true);
        rig.run(5);
        did("the last", rig, 50, 10, 5);
        turn("the last", rig, 2, 3);
        rig.board.hold(1, false);
        rig.run(1);
        turn("at once", rig, 1, 3);
        levels("no levels", rig, 0, 0, 0);
    }

    /** Its turn goes on if it was the latest one to run, else it begins one: a reservation tells. */
    private static void priorityTurns() {
        Code c = new Code().word(Code.rType(0x2F, 2, 2 << 2, 5, 11, 0)).nop().nop()
                .word(Code.rType(0x2F, 2, 3 << 2, 6, 11, 0)).spin();
        for (int between = 0; between < 2; between++) {
            Rig rig = Rig.with(looping(), App.of(64, c));
            rig.board.boot(1, 1, 0, false, 0);
            rig.board.hold(0, true);
            rig.run(2);
            rig.board.hold(between == 1 ? 0 : 1, between == 0);
            rig.run(1);
            rig.board.hold(0, true);
            rig.board.hold(1, false);
            rig.run(2);
            Check.due("sc when another ran between: " + between, rig.board.register(1, 6), between);
            Check.due("it was done", rig.board.process(1, 1), rig.board.process(1, 2) + 32 + 16);
        }
    }

    /** USED is below SLICE << its level. */
    private static void levelsBySlices() {
        int[] slices = {1, 3, 1000};
        for (int slice : slices) {
            Rig rig = loops(2, 2, slice);
            rig.run(slice);
            did("level 0", rig, slice, 0);
            levels("not yet", rig, 0, 0);
            rig.run(1);
            levels("its turn is over", rig, 1, 0);
            did("the other", rig, slice, 1);
            rig.run(slice - 1 + 2 * slice);
            did("level 1", rig, 3 * slice, slice);
            levels("level 1", rig, 1, 1);
            rig.run(1);
            levels("over", rig, 2, 1);
            rig.run(2 * slice - 1 + 4 * slice);
            did("level 2", rig, 7 * slice, 3 * slice);
            levels("level 2", rig, 2, 2);
            turn("level 2", rig, 0, 2);
            rig.run(1);
            turn("level 2 is over, too", rig, 1, 2);
        }
    }

    private static void levelTwoAtMost() {
        Rig rig = loops(1, 2, 2);
        rig.run(2);
        levels("2", rig, 0);
        rig.run(1);
        levels("3", rig, 1);
        rig.run(3);
        levels("6", rig, 1);
        rig.run(1);
        levels("7", rig, 2);
        rig.run(100);
        levels("for long", rig, 2);
        turn("alone", rig, 0, 1);
    }

    /** USED stays over turns that end because the process cannot run. */
    private static void levelsUsedInParts() {
        Rig rig = loops(2, 2, 4);
        for (int i = 0; i < 3; i++) {
            rig.run(1);
            rig.board.hold(0, true);
            rig.board.hold(1, false);
            rig.run(1);
            rig.board.hold(0, false);
            rig.board.hold(1, true);
        }
        levels("three of four each", rig, 0, 0);
        did("three each", rig, 3, 3);
        rig.run(1);
        levels("four", rig, 0, 0);
        rig.run(1);
        levels("the fifth", rig, 1, 0);
        did("alone", rig, 5, 3);
    }

    /** Its place is behind all others'. */
    private static void levelsPlaces() {
        Rig rig = loops(4, 2, 10);
        int[] order = {0, 1, 2, 3};
        for (int who : order) {
            rig.run(1);
            turn("in order", rig, who, 4);
            rig.board.hold(who, true);
        }
        rig.board.hold(2, false);
        rig.board.hold(0, false);
        rig.board.hold(1, false);
        rig.board.hold(3, false);
        rig.run(1);
        turn("3 can run again, its turn goes on", rig, 3, 4);
        rig.board.hold(3, true);
        rig.run(1);
        turn("the least place", rig, 0, 4);
        rig.board.hold(0, true);
        rig.run(1);
        turn("the next", rig, 1, 4);
        rig.board.hold(1, true);
        rig.run(1);
        turn("the next", rig, 2, 4);
        rig.board.hold(3, false);
        rig.board.hold(2, true);
        rig.run(1);
        turn("then 3", rig, 3, 4);
        levels("no level for that", rig, 0, 0, 0, 0);
    }

    private static void levelsEightPlaces() {
        Rig rig = loops(8, 2, 10);
        for (int i = 0; i < 8; i++) {
            rig.run(1);
            turn("at first as their numbers", rig, i, 8);
            rig.board.hold(i, true);
            if (i > 0) {
                rig.board.hold(i - 1, false);
            }
        }
        rig.run(1);
        turn("0 is behind all others, but 7 is held", rig, 0, 8);
        levels("all are on level 0", rig, 0, 0, 0, 0, 0, 0, 0, 0);
    }

    /** If USED is not below that, also when it cannot run: its level is 1 more. */
    private static void levelsTurnOverJustAsItCannotRun() {
        Rig rig = loops(2, 2, 3);
        rig.run(3);
        rig.board.hold(0, true);
        rig.run(1);
        levels("used up and held", rig, 1, 0);
        rig = loops(2, 2, 3);
        rig.run(2);
        rig.board.hold(0, true);
        rig.run(1);
        levels("one was left", rig, 0, 0);
        rig.board.hold(0, false);
        rig.run(2);
        rig.run(1);
        turn("1 is at the end of its slice", rig, 0, 2);
        rig.run(1);
        levels("it had one left", rig, 1, 1);
    }

    /** In each tick whose time is a multiple of 64 * SLICE. */
    private static void levelsForgottenAtTheMultiple() {
        int[] slices = {1, 3, 1000};
        for (int slice : slices) {
            Rig rig = loops(2, 2, slice);
            int before = 64 * slice - 1;
            while (before > 0) {
                int n = Math.min(before, 20000);
                rig.run(n);
                before -= n;
            }
            levels("just before", rig, 2, 2);
            rig.run(1);
            Check.due("time", rig.board.count(2), 64 * slice);
            levels("at the multiple", rig, 0, 0);
            turn("process 0 begins", rig, 0, 2);
            if (slice > 1) {
                rig.run(slice - 1);
                levels("its slice", rig, 0, 0);
                turn("still", rig, 0, 2);
            }
            rig.run(1);
            turn("a whole slice was its own", rig, 1, 2);
            levels("as at first", rig, 1, 0);
        }
        Rig rig = loops(2, 2, 2);
        rig.run(255);
        levels("before the second multiple", rig, 2, 2);
        rig.run(1);
        levels("at it", rig, 0, 0);
        for (int scheduler = 0; scheduler < 2; scheduler++) {
            Rig other = loops(2, scheduler, 3);
            other.run(191);
            boolean first = other.board.process(0, 14) == 1;
            other.run(1);
            turn("not by others", other, scheduler == 1 || first ? 0 : 1, 2);
        }
    }

    /** If none can, turns, USED and places stay as they are. */
    private static void noneCanRun() {
        for (int scheduler = 0; scheduler < 3; scheduler++) {
            Rig rig = loops(2, scheduler, 4);
            rig.run(2);
            rig.board.hold(0, true);
            rig.board.hold(1, true);
            rig.run(100);
            turn("the turn stays", rig, 0, 2);
            Check.due("time goes on", rig.board.count(2), 102);
            did("nothing is done", rig, 2, 0);
            rig.board.hold(0, false);
            rig.board.hold(1, false);
            rig.run(2);
            did("the turn goes on", rig, 4, 0);
            rig.run(1);
            turn("as it would have", rig, scheduler == 1 ? 0 : 1, 2);
        }
    }

    /** Also with as many processes as there may be, and with fewer than at an earlier boot. */
    private static void noneOfEightCanRun() {
        for (int scheduler = 0; scheduler < 3; scheduler++) {
            Rig rig = loops(8, scheduler, 4);
            for (int i = 0; i < 8; i++) {
                rig.board.hold(i, true);
            }
            rig.run(100);
            Check.due("none of eight", rig.board.count(10), 0);
            rig.board.off();
            rig.burnWords(0x10000 + 36, 0);
            Check.due("just one is left", rig.board.boot(scheduler, 4, 0, false, 0), 1);
            rig.board.hold(0, true);
            rig.run(100);
            Check.due("nor any that was there before", rig.board.count(10), 0);
            rig.board.hold(0, false);
            rig.run(10);
            did("then the one", rig, 10);
        }
    }

    /** A process CAN RUN if it is ready and not held. */
    private static void whoCanRun() {
        App waits = App.of(64, new Code().yieldWait().spin());
        App waitsFor = App.of(64, new Code().yieldFor(0, 0).spin());
        App ends = App.of(64, new Code().exit(0, 1));
        App faults = App.of(64, new Code().ebreak());
        for (int scheduler = 0; scheduler < 3; scheduler++) {
            Rig rig = Rig.with(waits, waitsFor, ends, faults, looping());
            rig.board.boot(scheduler, 5, 0, false, 0);
            rig.run(100);
            int[] states = {2, 3, 4, 5, 1};
            for (int i = 0; i < 5; i++) {
                rig.state("scheduler " + scheduler + " process " + i, i, states[i]);
            }
            Check.due("the rest is the last one's", did(rig, 4), 100 - 3 - 6 - 4 - 1);
            for (int i = 0; i < 5; i++) {
                rig.board.hold(i, true);
                rig.state("held", i, states[i] + 8);
            }
            rig.run(50);
            Check.due("none can", rig.board.count(10), 100);
        }
    }

    /** Starting: its level, USED and place stay. */
    private static void startingKeepsLevelAndTurn() {
        Rig rig = loops(2, 2, 2);
        rig.run(3);
        levels("before", rig, 1, 0);
        rig.board.restart(0);
        levels("the level stays", rig, 1, 0);
        rig = loops(2, 2, 4);
        rig.run(2);
        rig.board.restart(0);
        turn("the turn stays", rig, 0, 2);
        rig.run(2);
        did("USED stays", rig, 2, 0);
        rig.run(1);
        turn("so its turn is over", rig, 1, 2);
        levels("and its level 1", rig, 1, 0);
        rig = loops(2, 0, 4);
        rig.run(3);
        rig.board.restart(0);
        rig.run(2);
        turn("round robin goes on, too", rig, 1, 2);
        did("one in its old turn", rig, 1, 1);
    }

    /** If it was restarted fewer times than the LIMIT, it is started again. */
    private static void limits() {
        int[] limits = {0, 1, 2, 99, 100};
        for (int limit : limits) {
            Rig rig = Rig.with(App.of(64, new Code().ebreak()));
            rig.board.boot(0, 10, limit, false, 0);
            if (limit > 0) {
                rig.run(limit);
                rig.state("limit " + limit + " is reached", 0, 1);
            }
            Check.due("restarts", rig.board.process(0, 8), limit);
            rig.run(1);
            rig.state("one fault more", 0, 5);
            Check.due("restarts", rig.board.process(0, 8), limit);
            rig.run(20);
            Check.due("faults", rig.board.count(7), limit + 1);
            Check.due("restarts in all", rig.board.count(8), limit);
            Check.due("instructions", rig.board.count(10), limit + 1);
            rig.event("the fault comes last", 0, 0, 2, 3);
        }
    }

    /** Exit with 1 and restart() count, too, but have no limit. */
    private static void exitAndRestartCountForTheLimit() {
        Rig rig = Rig.with(App.of(64, new Code().nop().ebreak()));
        rig.board.boot(0, 10, 2, false, 0);
        rig.board.restart(0);
        rig.board.restart(0);
        Check.due("two by the maker", rig.board.process(0, 8), 2);
        rig.run(2);
        rig.state("none is left for a fault", 0, 5);
        rig.board.restart(0);
        Check.due("the maker has no limit", rig.board.process(0, 8), 3);
        rig.run(2);
        rig.state("faults again", 0, 5);
        rig = Rig.with(App.of(64, new Code().exit(1, 0)));
        rig.board.boot(0, 10, 2, false, 0);
        rig.run(4 * 5);
        Check.due("exit has none either", rig.board.process(0, 8), 5);
        rig.state("ready", 0, 1);
    }

    private static void timeGoesOn() {
        Rig rig = loops(1, 0, 1);
        Check.due("0 as the board is booted", rig.board.count(2), 0);
        rig.run(1);
        Check.due("1", rig.board.count(2), 1);
        rig.run(20000);
        Check.due("and so on", rig.board.count(2), 20001);
        rig.board.off();
        Check.due("off", rig.board.count(2), 0);
        rig.boot();
        Check.due("0 again", rig.board.count(2), 0);
        GrantBoard none = new GrantBoard();
        none.boot(0, 1, 0, false, 0);
        none.run(7);
        Check.due("without any process, too", none.count(2), 7);
    }

    /** Alarm 0, console 1, sampler 6, all in the tick of time 96. */
    private static void driversByRisingNumbers() {
        App app = App.of(64, new Code().subscribe(6, 0, "f", 0).subscribe(1, 1, "f", 0).subscribe(0, 0, "f", 0)
                .allowRead(1, 1, RAM, 8).command(1, 1, 8, 0).command(0, 6, 0, 96).command(6, 2, 1, 50).label("f").spin());
        Rig rig = Rig.with(app);
        rig.boot().run(95);
        Check.due("none as yet", rig.board.process(0, 9), 0);
        rig.run(1);
        Check.due("three", rig.board.process(0, 9), 3);
        int[] want = {0, 1, 6};
        for (int k = 0; k < 3; k++) {
            Check.due("by rising numbers " + k, rig.board.upcall(0, k, 0), want[k]);
        }
    }

    private static void oneInstructionATick() {
        Rig rig = loops(8, 0, 3);
        rig.run(1000);
        Check.due("one in each tick", rig.board.count(10), 1000);
        int all = 0;
        for (int i = 0; i < 8; i++) {
            all += did(rig, i);
        }
        Check.due("of all", all, 1000);
    }
}

import java.util.Random;

/** Part 6: ticks, the three schedulers, faults in turns. */
public final class TurnsTest {
    public static void main(String[] args) {
        roundRobin();
        roundRobinWaits();
        priority();
        levels();
        levelsByYielding();
        levelsAreForgotten();
        forgottenWhileNobodyRuns();
        nobodyRuns();
        faultsWithinATurn();
        timeAndDriversGoFirst();
        againstAModel();
        Check.finish();
    }


    /** x5 counts the rounds of two instructions, for ever. */
    private static App looping() {
        return App.plain(64).code(new Code().label("x").half(0x0285).half(0xBFFD));
    }

    private static App waiting() {
        return App.plain(64).code(new Code().subscribe(3, 0, "f", 0).command(3, 1, 0, 0).label("x").yieldWait().j("x")
                .label("f").addi(5, 5, 1).ret());
    }

    private static void counts(String what, Rig rig, int... want) {
        for (int i = 0; i < want.length; i++) {
            Check.due(what + " process " + i, rig.board.register(i, 5), want[i]);
        }
    }

    private static void turn(String what, Rig rig, int who, int processes) {
        for (int i = 0; i < processes; i++) {
            Check.due(what + " turn of " + i, rig.board.process(i, 14), i == who ? 1 : 0);
        }
    }

    private static void roundRobin() {
        Rig rig = Rig.with(looping(), looping(), looping());
        rig.board.boot(0, 4, 0, false, 0);
        turn("at first", rig, -1, 3);
        rig.run(4);
        counts("one slice", rig, 2, 0, 0);
        turn("one slice", rig, 0, 3);
        rig.run(1);
        counts("next", rig, 2, 1, 0);
        turn("next", rig, 1, 3);
        rig.run(7);
        counts("all", rig, 2, 2, 2);
        rig.board.hold(1, true);
        rig.run(8);
        counts("one held", rig, 4, 2, 4);
        turn("one held", rig, 2, 3);
        rig.board.hold(0, true);
        rig.run(8);
        counts("itself again", rig, 4, 2, 8);
        rig.run(2);
        rig.board.hold(2, true);
        rig.board.hold(1, false);
        rig.run(2);
        counts("a turn ends as it can't run", rig, 4, 3, 9);
        turn("a turn ends", rig, 1, 3);
        rig.board.hold(2, false);
        rig.run(2);
        counts("the turn goes on", rig, 4, 4, 9);
        rig.run(1);
        turn("then the next", rig, 2, 3);
        Check.due("level is 0", rig.board.process(0, 12), 0);
    }

    private static void roundRobinWaits() {
        Rig rig = Rig.with(looping());
        rig.board.boot(0, 4, 0, false, 0);
        rig.run(2);
        rig.board.hold(0, true);
        rig.run(100);
        Check.due("nobody can run", rig.board.count(10), 2);
        Check.due("time goes on", rig.board.count(2), 102);
        turn("the turn stays", rig, 0, 1);
        rig.board.hold(0, false);
        rig.run(2);
        counts("goes on", rig, 2);

        Code c = new Code().mv(8, 11).word(Code.rType(0x2F, 2, 8, 5, 8, 0)).nop().nop().nop()
                .word(Code.rType(0x2F, 2, 12, 6, 8, 0)).spin();
        rig = Rig.with(App.of(64, c));
        rig.board.boot(0, 6, 0, false, 0);
        rig.run(3);
        rig.board.hold(0, true);
        rig.run(50);
        rig.board.hold(0, false);
        rig.run(3);
        Check.due("it was one turn: the word is still reserved", rig.board.register(0, 6), 0);
        Check.due("it got there", rig.board.process(0, 1), 0x10020 + 24);
    }

    private static void priority() {
        Rig rig = Rig.with(waiting(), looping(), looping());
        rig.board.boot(1, 3, 0, false, 0);
        rig.run(16);
        counts("the first one goes until it waits", rig, 0, 0, 0);
        rig.state("waits", 0, 2);
        rig.run(10);
        counts("then the second", rig, 0, 5, 0);
        turn("the second", rig, 1, 3);
        rig.board.press(0, true);
        rig.run(1);
        counts("at once the first again", rig, 1, 5, 0);
        turn("the first", rig, 0, 3);
        rig.board.hold(1, true);
        rig.run(10);
        turn("the third", rig, 2, 3);
        rig.board.hold(0, true);
        rig.board.press(0, false);
        rig.state("held, but its upcall was run", 0, 9);
        rig.run(2);
        counts("held", rig, 1, 5, rig.board.register(2, 5));
    }

    private static void levels() {
        Rig rig = Rig.with(looping(), looping());
        rig.board.boot(2, 4, 0, false, 0);
        rig.run(4);
        turn("slice", rig, 0, 2);
        Check.due("level as yet", rig.board.process(0, 12), 0);
        rig.run(4);
        counts("both did 4", rig, 2, 2);
        Check.due("level 1", rig.board.process(0, 12), 1);
        Check.due("level 0 as yet", rig.board.process(1, 12), 0);
        rig.run(8);
        counts("twice the slice", rig, 6, 2);
        Check.due("level 1", rig.board.process(1, 12), 1);
        rig.run(8);
        counts("twice the slice", rig, 6, 6);
        Check.due("level 2", rig.board.process(0, 12), 2);
        rig.run(16);
        counts("four times the slice", rig, 14, 6);
        Check.due("level 2", rig.board.process(1, 12), 2);
        rig.run(16);
        counts("four times the slice", rig, 14, 14);
        rig.run(16);
        counts("level 2 is the last", rig, 22, 14);
        Check.due("level 2", rig.board.process(0, 12), 2);
    }

    private static void levelsByYielding() {
        Rig rig = Rig.with(looping(), looping(), looping());
        rig.board.boot(2, 4, 0, false, 0);
        rig.run(2);
        rig.board.hold(0, true);
        rig.run(1);
        turn("the next begins", rig, 1, 3);
        Check.due("no level for that", rig.board.process(0, 12), 0);
        rig.board.hold(0, false);
        rig.run(3);
        rig.run(1);
        turn("the place of 0 is behind 2", rig, 2, 3);
        rig.run(3);
        rig.run(1);
        turn("then 0", rig, 0, 3);
        rig.run(1);
        counts("it goes on with what it USED", rig, 2, 2, 2);
        rig.run(1);
        Check.due("and comes up by it", rig.board.process(0, 12), 1);
        turn("those of level 1 by places", rig, 1, 3);
    }

    private static void levelsAreForgotten() {
        Rig rig = Rig.with(looping(), looping());
        rig.board.boot(2, 1, 0, false, 0);
        rig.run(63);
        Check.due("levels", rig.board.process(0, 12), 2);
        Check.due("levels", rig.board.process(1, 12), 2);
        rig.run(1);
        Check.due("time", rig.board.count(2), 64);
        Check.due("forgotten", rig.board.process(0, 12), 0);
        Check.due("forgotten", rig.board.process(1, 12), 0);
        turn("places are as numbers are", rig, 0, 2);
        rig.run(1);
        turn("slice 1", rig, 1, 2);
        Check.due("level 1", rig.board.process(0, 12), 1);
        rig = Rig.with(looping(), looping());
        rig.board.boot(2, 2, 0, false, 0);
        rig.run(127);
        Check.due("levels", rig.board.process(1, 12), 2);
        rig.run(1);
        Check.due("64 times the slice", rig.board.process(1, 12), 0);
        rig = Rig.with(looping(), looping());
        rig.board.boot(0, 1, 0, false, 0);
        rig.run(64);
        turn("not with other schedulers", rig, 1, 2);
    }

    private static void forgottenWhileNobodyRuns() {
        Rig rig = Rig.with(looping(), looping());
        rig.board.boot(2, 1, 0, false, 0);
        rig.run(50);
        rig.board.hold(0, true);
        rig.board.hold(1, true);
        rig.run(13);
        Check.due("levels stay", rig.board.process(0, 12), 2);
        rig.run(1);
        Check.due("each tick of that time forgets", rig.board.process(0, 12), 0);
        turn("nobody has the turn", rig, -1, 2);
    }

    private static void nobodyRuns() {
        Rig rig = Rig.with(looping(), looping());
        rig.board.boot(2, 4, 0, false, 0);
        rig.run(4);
        rig.board.hold(0, true);
        rig.board.hold(1, true);
        rig.run(20);
        turn("turns stay", rig, 0, 2);
        Check.due("level stays", rig.board.process(0, 12), 0);
        rig.board.hold(0, false);
        rig.run(1);
        Check.due("now its turn is over", rig.board.process(0, 12), 1);
        turn("but it begins the next one", rig, 0, 2);
        counts("4 and 1", rig, 3, 0);
    }

    private static void faultsWithinATurn() {
        Rig rig = Rig.with(App.of(64, new Code().nop().ebreak()), looping());
        rig.board.boot(0, 5, 100, false, 0);
        rig.run(5);
        Check.due("the turn goes on over a restart", rig.board.process(0, 8), 2);
        turn("its turn", rig, 0, 2);
        Check.due("instructions", rig.board.count(10), 5);
        rig.run(1);
        turn("the next", rig, 1, 2);
        rig = Rig.with(App.of(64, new Code().nop().ebreak()), looping());
        rig.board.boot(2, 5, 100, false, 0);
        rig.run(6);
        Check.due("USED stays over a restart", rig.board.process(0, 12), 1);
        rig.board.restart(0);
        Check.due("so does the level", rig.board.process(0, 12), 1);
        rig = Rig.with(App.of(64, new Code().nop().ebreak()), looping());
        rig.board.boot(0, 5, 0, false, 0);
        rig.run(3);
        turn("a faulted one's turn is over", rig, 1, 2);
    }

    private static void timeAndDriversGoFirst() {
        Code c = new Code().command(0, 2, 0, 0).mv(20, Code.A1).subscribe(0, 0, "f", 0).command(0, 5, 0, 0).yieldWait()
                .spin().label("f").keep(0x20000).spin();
        Rig rig = Rig.running(64, c).run(40);
        Check.due("the time is 1 more before the instruction", rig.board.register(0, 20), 6);
        rig.kept("the alarm comes in the next tick, ahead of the instruction", 0x20000, 21, 20, 0);
    }

    /** The document's words once more, in another form: who does the instruction in each tick. */
    private static final class Model {
        final int kind;
        final int slice;
        final int n;
        final boolean[] held;
        final int[] level;
        final int[] used;
        final long[] place;
        final int[] did;
        int turn = -1;
        int inTurn;
        int time;

        Model(int kind, int slice, int n) {
            this.kind = kind;
            this.slice = slice;
            this.n = n;
            held = new boolean[n];
            level = new int[n];
            used = new int[n];
            place = new long[n];
            did = new int[n];
            renew();
        }

        void renew() {
            for (int i = 0; i < n; i++) {
                level[i] = 0;
                used[i] = 0;
                place[i] = i;
            }
            turn = -1;
        }

        void tick() {
            time++;
            if (kind == 2 && time % (64 * slice) == 0) {
                renew();
            }
            boolean any = false;
            for (boolean h : held) {
                any |= !h;
            }
            if (!any) {
                return;
            }
            boolean goesOn = turn >= 0 && !held[turn];
            if (kind == 0) {
                goesOn &= inTurn < slice;
            } else if (kind == 1) {
                for (int i = 0; i < turn; i++) {
                    goesOn &= held[i];
                }
            } else if (turn >= 0) {
                goesOn &= used[turn] < slice << level[turn];
            }
            if (!goesOn) {
                int next = kind == 0 ? nextRound() : kind == 1 ? first() : best();
                turn = next;
                inTurn = 0;
            }
            inTurn++;
            used[turn]++;
            did[turn]++;
        }

        int nextRound() {
            int i = turn;
            do {
                i = (i + 1) % n;
            } while (held[i]);
            return i;
        }

        int first() {
            int i = 0;
            while (held[i]) {
                i++;
            }
            return i;
        }

        int best() {
            if (turn >= 0) {
                if (used[turn] >= slice << level[turn]) {
                    level[turn] = Math.min(level[turn] + 1, 2);
                    used[turn] = 0;
                }
                long most = 0;
                for (long p : place) {
                    most = Math.max(most, p);
                }
                place[turn] = most + 1;
            }
            int b = -1;
            for (int i = 0; i < n; i++) {
                if (!held[i] && (b < 0 || level[i] < level[b] || level[i] == level[b] && place[i] < place[b])) {
                    b = i;
                }
            }
            return b;
        }
    }

    private static void againstAModel() {
        Random random = new Random(3);
        for (int round = 0; round < 300; round++) {
            int kind = round % 3;
            int slice = 1 + random.nextInt(6);
            int n = 1 + random.nextInt(round % 10 == 0 ? 8 : 4);
            App[] apps = new App[n];
            java.util.Arrays.setAll(apps, i -> looping());
            Rig rig = Rig.with(apps);
            rig.board.boot(kind, slice, 0, false, 0);
            Model model = new Model(kind, slice, n);
            for (int step = 0; step < (n > 4 ? 15 : 25); step++) {
                int who = random.nextInt(n);
                model.held[who] = random.nextInt(3) == 0;
                rig.board.hold(who, model.held[who]);
                int ticks = 1 + random.nextInt(20);
                rig.run(ticks);
                for (int i = 0; i < ticks; i++) {
                    model.tick();
                }
                turn("model " + round + " step " + step, rig, model.turn, n);
                for (int i = 0; i < n; i++) {
                    int did = 2 * rig.board.register(i, 5) - (rig.board.process(i, 1) % 4 == 0 ? 0 : 1);
                    Check.due("model " + round + " did " + i, did, model.did[i]);
                    Check.due("model " + round + " level " + i, rig.board.process(i, 12), kind == 2 ? model.level[i] : 0);
                }
            }
        }
    }
}

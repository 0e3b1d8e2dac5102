/** Parts 3 and 4: heads, elements, credentials, loading, blocks, entries, starting. */
public final class AppsTest {
    private static final int NONE = GrantBoard.NONE;
    private static final Code SPIN = new Code().spin();

    public static void main(String[] args) {
        noMoreApps();
        totals();
        passedOver();
        elements();
        storeEdge();
        credentials();
        names();
        namesAndStrictness();
        blocks();
        blockRoom();
        eightProcesses();
        tooMuchRam();
        nothingIsLeftOver();
        starting();
        control();
        entries();
        Check.finish();
    }

    private static App app(int ram) {
        return App.plain(ram).code(SPIN);
    }

    private static int loaded(App... apps) {
        return Rig.with(apps).board.boot(0, 1, 0, false, 0);
    }

    private static int loadedBytes(byte[] first, App second) {
        byte[] all = java.util.Arrays.copyOf(first, first.length + second.bytes().length);
        System.arraycopy(second.bytes(), 0, all, first.length, second.bytes().length);
        return new Rig().burn(Rig.FLASH, all).board.boot(0, 1, 0, false, 0);
    }

    private static byte[] changed(int at, int... bytes) {
        byte[] b = app(64).bytes();
        for (int i = 0; i < bytes.length; i++) {
            b[at + i] = (byte) bytes[i];
        }
        App.check(b, 32);
        return b;
    }

    private static void noMoreApps() {
        Check.due("two apps", loaded(app(64), app(64)), 2);
        Check.due("not a 2", loadedBytes(changed(0, 3), app(64)), 0);
        Check.due("not a 2, high byte", loadedBytes(changed(1, 1), app(64)), 0);
        Check.due("size below 16", loadedBytes(changed(2, 12, 0), app(64)), 0);
        Check.due("size no multiple of 4", loadedBytes(changed(2, 34, 0), app(64)), 0);
        Check.due("size above 512", loadedBytes(changed(2, 4, 2), app(64)), 0);
        Check.due("total no multiple of 4", loadedBytes(changed(4, 38), app(64)), 0);
        Check.due("total below the size", loadedBytes(changed(4, 28), app(64)), 0);
        Check.due("total beyond the store", loadedBytes(changed(4, 4, 240), app(64)), 0);
        Check.due("total with a sign", loadedBytes(changed(4, 36, 0, 0, 128), app(64)), 0);
        Check.due("flash empty", new GrantBoard().boot(0, 1, 0, false, 0), 0);
    }

    private static void totals() {
        Rig rig = Rig.with(app(64).total(0xF00), app(64));
        Check.due("app behind a large one", rig.board.boot(0, 1, 0, false, 0), 2);
        Check.due("its address", rig.board.process(1, 2), 0x10F00);
        Check.due("the total", rig.board.process(0, 3), 0xF00);
        App bare = new App();
        Check.due("a head of 16 bytes is passed over", loaded(bare, app(64)), 1);
        App large = App.plain(64);
        for (int i = 0; i < 120; i++) {
            large.raw(99, 0);
        }
        Check.due("a head of 512 bytes", loaded(large.code(SPIN)), 1);
        Check.due("size 512", large.headSize(), 512);
        App larger = App.plain(64);
        for (int i = 0; i < 121; i++) {
            larger.raw(99, 0);
        }
        Check.due("size 516", larger.headSize(), 516);
        Check.due("a head of 516 bytes: no more apps", loaded(larger.code(SPIN), app(64)), 0);
    }

    private static void passedOver() {
        Check.due("check not so", loaded(app(64).spoilt(), app(64)), 1);
        Check.due("not enabled", loaded(app(64).flags(2), app(64)), 1);
        Check.due("enabled with other flags", loaded(app(64).flags(-1), app(64)), 2);
        Check.due("an element beyond the head", loaded(app(64).raw(5, 1), app(64)), 1);
        Check.due("an element up to the end", loaded(app(64).raw(5, 1, 0, 0), app(64)), 2);
        Check.due("an element far beyond", loaded(app(64).raw(5, 0xFFFF), app(64)), 1);
        Check.due("an empty element at the end", loaded(app(64).raw(5, 0), app(64)), 2);
        Check.due("without a 1 or 9", loaded(new App().name("x").code(SPIN), app(64)), 1);
        Check.due("a 1 of another length", loaded(new App().element(1, App.words(0, 0)).code(SPIN), app(64)), 1);
        Check.due("a 9 of another length", loaded(new App().element(9, App.words(0, 0, 64)).code(SPIN), app(64)), 1);
        Rig rig = Rig.with(app(64).spoilt(), app(64));
        rig.board.boot(0, 1, 0, false, 0);
        Check.due("numbers go by what is loaded", rig.board.process(0, 2), 0x10000 + 36);
    }

    private static void elements() {
        Rig rig = Rig.running(new App().element(1, App.words(0, 0)).main(4, 100).main(0, 200)
                .code(new Code().nop().spin()));
        Check.due("the first 1 of the right length: ram", rig.board.process(0, 6), 0x20000 + 100);
        Check.due("its start", rig.board.process(0, 1), 0x10000 + 16 + 12 + 16 + 16 + 4);
        Check.due("no version", rig.board.process(0, 13), 0);
        rig = Rig.running(new App().main(0, 100).nine(4, 300, -5).nine(0, 400, 6).code(new Code().nop().spin()));
        Check.due("9 counts before 1", rig.board.process(0, 6), 0x20000 + 300);
        Check.due("its start", rig.board.process(0, 1), 0x10000 + 16 + 16 + 24 + 24 + 4);
        Check.due("its version", rig.board.process(0, 13), -5);
        rig = Rig.running(App.plain(64).storeNumber(9).code(new Code().command(5, 1, 7, 0).spin())).run(10);
        Check.due("a store number", rig.board.register(0, 10), 128);
        rig = Rig.running(App.plain(64).element(7, App.words(9, 9)).code(new Code().command(5, 1, 7, 0).spin())).run(10);
        Check.due("a 7 of another length", rig.board.register(0, 11), 10);
        byte[] perms = new byte[72];
        rig = Rig.running(App.plain(64).element(8, perms).element(8, new byte[12])
                .code(new Code().command(0, 2, 0, 0).spin())).run(10);
        Check.due("an 8 of another length", rig.board.register(0, 10), 129);
        rig = Rig.running(App.plain(64).element(8, new byte[64]).code(new Code().command(0, 2, 0, 0).spin())).run(10);
        Check.due("an 8 of 64 bytes", rig.board.register(0, 11), 11);
        rig = Rig.running(App.plain(64).element(8).code(new Code().command(0, 2, 0, 0).spin())).run(10);
        Check.due("an 8 of no bytes", rig.board.register(0, 10), 129);
    }

    private static void storeEdge() {
        Rig rig = Rig.with(app(64).total(0xF000 - 36), app(64));
        rig.burn(0x1EFDC, app(64).bytes());
        Check.due("up to the store", rig.board.boot(0, 1, 0, false, 0), 2);
        Check.due("the last app", rig.board.process(1, 2) + rig.board.process(1, 3), 0x1F000);
        rig = Rig.with(app(64).total(0xF000 - 32));
        rig.burn(0x1EFE0, app(64).bytes());
        Check.due("beyond the store", rig.board.boot(0, 1, 0, false, 0), 1);
        rig = Rig.with(app(64).total(0xF000 - 12));
        rig.burn(0x1EFF4, new byte[] {2, 0, 12, 0, 12, 0, 0, 0, 1, 0, 0, 0});
        Check.due("fewer than 16 bytes", rig.board.boot(0, 1, 0, false, 0), 1);
        rig = Rig.with(app(64).total(0xF000));
        Check.due("all of flash before the store", rig.board.boot(0, 1, 0, false, 0), 1);
    }

    private static int strict(byte[] bytes) {
        return new Rig().burn(Rig.FLASH, bytes).board.boot(0, 1, 0, true, 0);
    }

    private static byte[] touched(App app, int fromEnd, int flip) {
        byte[] b = app.bytes();
        b[b.length - fromEnd] ^= (byte) flip;
        return b;
    }

    private static App signed() {
        return App.program(64, 1).code(SPIN).signed();
    }

    private static byte[] withBinaryEnd(int end) {
        byte[] b = App.program(64, 1).code(SPIN).total(72).bytes();
        Code.put(b, 16 + 4 + 12, end);
        App.check(b, 40);
        if (end >= 0 && end + 12 <= b.length) {
            App.sign(b, end);
        }
        return b;
    }

    /** Sound credentials within an element: a free word of the head makes up for what they do to the check. */
    private static byte[] signedInTheHead() {
        byte[] b = App.program(64, 1).element(99, new byte[12]).element(97, new byte[4]).code(SPIN).bytes();
        Code.put(b, 16 + 4 + 12, 44);
        App.sign(b, 44);
        int sum = 0;
        for (int i = 0; i < 60; i += 4) {
            sum ^= Code.get(b, i);
        }
        Code.put(b, 60, sum);
        return b;
    }

    private static void credentials() {
        Check.due("signed", strict(signed().bytes()), 1);
        Check.due("not signed", strict(App.program(64, 1).code(SPIN).bytes()), 0);
        Check.due("not signed, not strict", loaded(App.program(64, 1).code(SPIN)), 1);
        Check.due("crc not so", strict(touched(signed(), 1, 128)), 0);
        Check.due("code not so", strict(touched(signed(), 13, 1)), 0);
        Check.due("type not so", strict(touched(signed(), 12, 1)), 0);
        Check.due("type not so, high", strict(touched(signed(), 11, 1)), 0);
        Check.due("length not so", strict(touched(signed(), 10, 1)), 0);
        Check.due("1 not so", strict(touched(signed(), 8, 2)), 0);
        Check.due("a plain 1 has no place for any", strict(App.plain(64).code(SPIN).signed().bytes()), 0);
        Check.due("from the head's size on", strict(withBinaryEnd(40)), 1);
        Check.due("up to total - 12", strict(withBinaryEnd(60)), 1);
        Check.due("beyond", strict(withBinaryEnd(64)), 0);
        Check.due("in the head", strict(withBinaryEnd(36)), 0);
        Check.due("no multiple of 4", strict(withBinaryEnd(42)), 0);
        Check.due("with a sign", strict(withBinaryEnd(0x80000000)), 0);
        Check.due("sound ones, but in the head", strict(signedInTheHead()), 0);
        Check.due("the head is so", new Rig().burn(Rig.FLASH, signedInTheHead()).board.boot(0, 1, 0, false, 0), 1);
        byte[] behind = App.program(64, 1).code(SPIN).signed().total(80).bytes();
        Check.due("more behind them", strict(behind), 1);
    }

    private static App named(String name, int version) {
        return App.program(64, version).name(name).code(SPIN);
    }

    private static void versions(String what, int first, int second, int address) {
        Rig rig = Rig.with(named("ab", first), named("ab", second));
        Check.due(what, rig.board.boot(0, 1, 0, false, 0), 1);
        Check.due(what + ": which", rig.board.process(0, 2), address);
    }

    private static void names() {
        int second = 0x10000 + 16 + 24 + 8 + 4;
        versions("the same version", 3, 3, 0x10000);
        versions("the first is greater", 4, 3, 0x10000);
        versions("the second is greater", 3, 4, second);
        versions("without sign", -1, 4, 0x10000);
        versions("without sign", 4, -1, second);
        Check.due("other names", loaded(named("ab", 1), named("ac", 1)), 2);
        Check.due("one byte is a name", loaded(named("a", 1), named("a", 1)), 1);
        Check.due("other first bytes", loaded(named("ab", 1), named("bb", 1)), 2);
        Check.due("a longer name", loaded(named("ab", 1), named("abc", 1)), 2);
        Check.due("no names", loaded(app(64), app(64)), 2);
        Check.due("too long a name is none", loaded(named("abcdefghijklmnopq", 1), named("abcdefghijklmnopq", 1)), 2);
        Check.due("16 bytes are one", loaded(named("abcdefghijklmnop", 1), named("abcdefghijklmnop", 1)), 1);
        Check.due("a plain app has version 0", loaded(App.plain(64).name("ab").code(SPIN), named("ab", 0)), 1);
        Check.due("three of one", loaded(named("ab", 1), named("ab", 3), named("ab", 2)), 1);
        Check.due("one that is passed over does not count", loaded(named("ab", 1), named("ab", 3).spoilt()), 1);
        Check.due("nor one that is not enabled", loaded(named("ab", 1), named("ab", 3).flags(0)), 1);
        Check.due("nor one with too much RAM",
                loaded(named("ab", 1), App.program(15873, 3).name("ab").code(SPIN)), 1);
        Check.due("the first name counts", loaded(named("ab", 1).name("cd"), named("cd", 1)), 2);
        App[] big = {app(15872), app(15872), app(15872), named("ab", 1),
            App.program(15872, 2).name("ab").code(SPIN)};
        Rig rig = Rig.with(big);
        Check.due("the greater one takes the last room", rig.board.boot(0, 1, 0, false, 0), 4);
        rig = Rig.with(app(15872), app(15872), app(15872), app(100), named("ab", 1),
                App.program(15872, 2).name("ab").code(SPIN));
        Check.due("one without room counts all the same: neither is loaded", rig.board.boot(0, 1, 0, false, 0), 4);
    }

    private static void namesAndStrictness() {
        App[] apps = {named("ab", 1).signed(), named("ab", 2)};
        Rig rig = Rig.with(apps);
        Check.due("strict: the greater has no credentials", rig.board.boot(0, 1, 0, true, 0), 1);
        Check.due("so the other is loaded", rig.board.process(0, 2), 0x10000);
        rig.board.off();
        Check.due("not strict", rig.board.boot(0, 1, 0, false, 0), 1);
        Check.due("the greater one", rig.board.process(0, 2), 0x10000 + 64);
    }

    private static void block(String what, int ram, int size) {
        Rig rig = Rig.running(app(ram));
        Check.due(what + " beginning", rig.board.process(0, 4), 0x20000);
        Check.due(what + " size", rig.board.process(0, 5), size);
        Check.due(what + " break", rig.board.process(0, 6), 0x20000 + (ram + 3 & -4));
        Check.due(what + " lowest", rig.board.process(0, 7), 0x20000 + size - 64);
        Check.due(what + " audit", rig.board.audit(), 0);
    }

    private static void blocks() {
        block("0", 0, 1024);
        block("1", 1, 1024);
        block("511", 511, 1024);
        block("512", 512, 1024);
        block("513", 513, 2048);
        block("1536", 1536, 2048);
        block("1537", 1537, 4096);
        block("15871", 15871, 16384);
        block("15872", 15872, 16384);
    }

    private static void blockRoom() {
        Rig rig = Rig.with(app(100), app(3000), app(100), app(15872), app(15872), app(15872), app(600), app(7000));
        Check.due("all loaded but what has no room", rig.board.boot(0, 1, 0, false, 0), 6);
        int[] begins = {0x20000, 0x21000, 0x22000, 0x24000, 0x28000, 0x2C000};
        for (int i = 0; i < begins.length; i++) {
            Check.due("block " + i, rig.board.process(i, 4), begins[i]);
        }
        Check.due("audit", rig.board.audit(), 0);
        rig = Rig.with(app(15872), app(15872), app(15872), app(7000), app(15872), app(3000), app(7000), app(3000));
        Check.due("smaller ones behind", rig.board.boot(0, 1, 0, false, 0), 6);
        Check.due("fourth", rig.board.process(3, 4), 0x2C000);
        Check.due("fifth", rig.board.process(4, 4), 0x2E000);
        Check.due("sixth", rig.board.process(5, 4), 0x2F000);
        Check.due("audit", rig.board.audit(), 0);
    }

    private static void eightProcesses() {
        App[] apps = new App[10];
        for (int i = 0; i < apps.length; i++) {
            apps[i] = app(64);
        }
        Rig rig = Rig.with(apps);
        Check.due("eight", rig.board.boot(0, 1, 0, false, 0), 8);
        Check.due("the last", rig.board.process(7, 2), 0x10000 + 7 * 36);
        Check.due("no ninth", rig.board.process(8, 0), NONE);
        Check.due("audit", rig.board.audit(), 0);
    }

    private static void tooMuchRam() {
        Check.due("15873", loaded(app(15873), app(64)), 1);
        Check.due("with a sign", loaded(app(-4), app(64)), 1);
        Check.due("-1", loaded(app(-1), app(64)), 1);
    }

    /** What an app that is not loaded says is forgotten as the next head is read. */
    private static void nothingIsLeftOver() {
        App first = App.program(15873, 7).name("ab").storeNumber(3).permissions(3, 2).code(SPIN);
        Code c = new Code().command(0, 1, 0, 0).keep(0x20000).command(5, 1, 0, 0).keep(0x20010).spin();
        Rig rig = Rig.with(first, App.of(64, c), named("ab", 0));
        Check.due("both others", rig.board.boot(1, 1, 0, false, 0), 2);
        Check.due("no version", rig.board.process(0, 13), 0);
        rig.run(40);
        rig.kept("no permissions", 0x20000, 129, 1000);
        rig.kept("no store number", 0x20010, 0, 10);
        Code asks = new Code().allowReadLabel(7, 0, "ab", 2).command(7, 3, 2, 0).spin().label("ab").text("ab");
        rig = Rig.with(first, App.of(64, asks), named("ab", 0));
        rig.board.boot(1, 1, 0, false, 0);
        rig.run(40);
        Check.due("no name", rig.board.register(0, 11), 1);
    }

    private static void starting() {
        Rig rig = Rig.with(app(64), App.program(701, 8).code(new Code().nop().spin()));
        rig.board.boot(0, 1, 0, false, 0);
        int at = 0x10000 + 36;
        int[] want = new int[32];
        want[2] = 0x20800 + 704;
        want[10] = at + 40;
        want[11] = 0x20800;
        want[12] = 2048;
        want[13] = 0x20800 + 704;
        for (int r = 0; r < 32; r++) {
            Check.due("x" + r, rig.board.register(1, r), want[r]);
        }
        Check.due("pc", rig.board.process(1, 1), at + 40);
        rig.state("at first", 1, 1);
    }

    private static void control() {
        Rig rig = Rig.with(app(64), App.plain(100).code(new Code().command(0, 5, 100, 0).spin()));
        rig.board.boot(0, 1, 0, false, 0);
        int at = 0x20400 + 1024 - 64;
        int[] first = {1, 0x10024, 0x20400 + 100, at, 0, 0, 0, 0, 0, 1, 0, 0, 0, 0, 0, 0};
        for (int i = 0; i < 16; i++) {
            Check.due("control " + i, rig.word(at + 4 * i), first[i]);
        }
        rig.run(12);
        rig.board.hold(1, true);
        Check.due("lowest", rig.word(at + 12), at - 28);
        Check.due("held", rig.word(at + 36), 9);
        rig.board.restart(1);
        Check.due("lowest again", rig.word(at + 12), at);
        Check.due("restarts", rig.word(at + 16), 1);
        Check.due("still held", rig.word(at + 36), 9);
    }

    private static void entry(Rig rig, int k, int address, int configuration) {
        Check.due("entry " + k, rig.board.entry(0, k, 0), address);
        Check.due("entry's configuration " + k, rig.board.entry(0, k, 1), configuration);
    }

    private static void entries() {
        Rig rig = Rig.running(app(100));
        entry(rig, 0, 0x4000, 0);
        entry(rig, 1, 0x10024 >> 2, 8 + 5);
        entry(rig, 2, 0x8000, 0);
        entry(rig, 3, 0x20064 >> 2, 8 + 3);
        for (int k = 4; k < 16; k++) {
            entry(rig, k, 0, 0);
        }
        rig = Rig.running(app(256).total(64));
        entry(rig, 0, 0x4000 | 7, 24 + 5);
        entry(rig, 1, 0x8000 | 31, 24 + 3);
        entry(rig, 2, 0, 0);
        rig = Rig.running(app(4));
        entry(rig, 2, 0x8000, 16 + 3);
        Check.due("audit", rig.board.audit(), 0);
        rig = Rig.running(app(8));
        entry(rig, 2, 0x8000, 24 + 3);
        rig = Rig.running(app(0));
        entry(rig, 2, 0, 0);
        Check.due("audit", rig.board.audit(), 0);
        rig = Rig.with(app(64).flags(0), app(64).total(64));
        rig.board.boot(0, 1, 0, false, 0);
        entry(rig, 0, 0x10024 >> 2, 0);
        entry(rig, 1, 0x10064 >> 2, 13);
        entry(rig, 2, 0x8000 | 7, 27);
        Check.due("audit", rig.board.audit(), 0);
        rig = Rig.running(64, new Code().call(5, 1, 4, 0, 0).spin()).run(7);
        entry(rig, 2, 0x8000, 0);
        entry(rig, 3, 0x20044 >> 2, 11);
        Check.due("audit", rig.board.audit(), 0);
    }
}

import java.io.ByteArrayOutputStream;
import java.util.Arrays;
import java.util.zip.CRC32;

/** Part 3: heads, elements, credentials, names and versions, loading, each at its bounds. */
public final class EdgesAppsTest {
    private static final int NONE = GrantBoard.NONE;
    private static final Code SPIN = new Code().spin();

    public static void main(String[] args) {
        sizeBounds();
        totalBounds();
        storeBounds();
        sixteenBytesLeft();
        firstBytes();
        flagsAndCheck();
        checkOfEachWord();
        elementBounds();
        elementLengths();
        firstOfItsType();
        nineBeforeOne();
        nameLengths();
        permissionLengths();
        binaryEndBounds();
        eachByteOfCredentials();
        crcOfAllBefore();
        ramBounds();
        versions();
        namesOfThoseThatDoNotCount();
        eightProcesses();
        roomInRam();
        numbering();
        Check.finish();
    }

    private static App app() {
        return App.plain(64).code(SPIN);
    }

    private static byte[] join(byte[]... parts) {
        ByteArrayOutputStream all = new ByteArrayOutputStream();
        for (byte[] part : parts) {
            all.writeBytes(part);
        }
        return all.toByteArray();
    }

    private static int loaded(boolean strict, byte[]... parts) {
        return new Rig().burn(Rig.FLASH, join(parts)).board.boot(0, 1, 0, strict, 0);
    }

    private static int loaded(App... apps) {
        return Rig.with(apps).board.boot(0, 1, 0, false, 0);
    }

    /** An app's bytes with a word of its head set, and a check that is so. */
    private static byte[] with(byte[] b, int at, int word) {
        byte[] changed = b.clone();
        Code.put(changed, at, word);
        App.check(changed, Math.min(changed.length, changed[2] & 255 | (changed[3] & 255) << 8) & -4);
        return changed;
    }

    /** A head of a size, filled with empty elements, and one app behind. */
    private static byte[] head(int size) {
        App a = App.plain(64);
        while (a.headSize() < size) {
            a.raw(99, 0);
        }
        byte[] b = a.code(SPIN).bytes();
        Code.put(b, 0, 2 | size << 16);
        App.check(b, Math.max(16, size & -4));
        return b;
    }

    /** SIZE 16 .. 512, a multiple of 4: else there are no more apps. */
    private static void sizeBounds() {
        Check.due("size 32", loaded(false, head(32), app().bytes()), 2);
        Check.due("size 508", loaded(false, head(508), app().bytes()), 2);
        Check.due("size 512", loaded(false, head(512), app().bytes()), 2);
        Check.due("size 513", loaded(false, head(513), app().bytes()), 0);
        Check.due("size 516", loaded(false, head(516), app().bytes()), 0);
        for (int off = 1; off < 4; off++) {
            Check.due("size " + (32 + off), loaded(false, head(32 + off), app().bytes()), 0);
        }
        byte[] bare = new App().code(SPIN).bytes();
        Check.due("size 16 is passed over, others come behind", loaded(false, bare, app().bytes()), 1);
        int[] none = {0, 4, 12, 15, 0x8010, 0xFFFC};
        for (int size : none) {
            byte[] b = bare.clone();
            Code.put(b, 0, 2 | size << 16);
            App.check(b, 16);
            Check.due("size " + size, loaded(false, b, app().bytes()), 0);
        }
        Check.due("one before it stays", loaded(false, app().bytes(), head(516), app().bytes()), 1);
    }

    /** TOTAL: a multiple of 4, not below the size. */
    private static void totalBounds() {
        byte[] b = App.plain(64).bytes();
        Check.due("total is the size", loaded(false, b, app().bytes()), 2);
        Rig rig = new Rig().burn(Rig.FLASH, b);
        rig.boot().run(1);
        rig.state("an app without code faults", 0, 5);
        Check.due("4 below the size", loaded(false, with(b, 4, 28), app().bytes()), 0);
        for (int off = 1; off < 4; off++) {
            byte[] longer = Arrays.copyOf(with(b, 4, 32 + off), 32 + off);
            Check.due("total " + (32 + off), loaded(false, longer, app().bytes()), 0);
        }
        Check.due("total 0", loaded(false, with(b, 4, 0), app().bytes()), 0);
        Check.due("the greatest", loaded(false, with(b, 4, -4), app().bytes()), 0);
        Check.due("with a sign", loaded(false, with(b, 4, 0x80000020), app().bytes()), 0);
        Check.due("MAX", loaded(false, with(b, 4, 0x7FFFFFFC), app().bytes()), 0);
    }

    /** All of the app lies before the STORE. */
    private static void storeBounds() {
        int[] totals = {0xF000 - 4, 0xF000, 0xF004, 0x10000, 0x10004};
        int[] want = {1, 1, 0, 0, 0};
        for (int i = 0; i < totals.length; i++) {
            byte[] b = with(app().bytes(), 4, totals[i]);
            Check.due("total " + Integer.toHexString(totals[i]), loaded(false, b), want[i]);
        }
        for (int off = -4; off <= 4; off += 4) {
            Rig rig = Rig.with(app().total(0xF000 - 36 + off));
            rig.burn(0x1F000 - 36 + off, app().bytes());
            Check.due("the last app ends at the store and " + off, rig.board.boot(0, 1, 0, false, 0), off <= 0 ? 2 : 1);
        }
    }

    /** Fewer than 16 bytes are left: there are no more apps. What would be a head there lies partly in the store. */
    private static void sixteenBytesLeft() {
        byte[] bare = new App().bytes();
        for (int left = 0; left <= 20; left += 4) {
            Rig rig = Rig.with(app().total(0xF000 - left));
            rig.burn(0x1F000 - left, bare);
            Check.due("left " + left, rig.board.boot(0, 1, 0, false, 0), 1);
            Check.due("the store is as a bank that is not good", rig.word(0x1F000), 0x4B560000);
        }
        Rig rig = Rig.with(app().total(0xF000 - 32));
        rig.burn(0x1F000 - 32, App.plain(64).bytes());
        Check.due("an app of 32 bytes in the last 32", rig.board.boot(0, 1, 0, false, 0), 2);
    }

    private static void firstBytes() {
        int[] firsts = {0, 1, 3, 0x102, 0x8002, 0xFFFF};
        for (int first : firsts) {
            byte[] b = with(app().bytes(), 0, first | 32 << 16);
            Check.due("2 bytes that are " + first, loaded(false, b, app().bytes()), 0);
        }
    }

    /** FLAGS bit 0: it is ENABLED. */
    private static void flagsAndCheck() {
        int[] flags = {0, 1, 2, 3, -1, -2, 0x80000001, 0x80000000, 0x100};
        for (int f : flags) {
            Check.due("flags " + f, loaded(app().flags(f), app()), f % 2 != 0 ? 2 : 1);
        }
    }

    /** A CHECK: the exclusive or of all words of the head but this. Each bit of it counts. */
    private static void checkOfEachWord() {
        byte[] b = app().bytes();
        for (int bit = 0; bit < 256; bit++) {
            byte[] flipped = b.clone();
            flipped[bit / 8] ^= (byte) (1 << bit % 8);
            boolean frame = bit < 64;
            boolean first = loaded(false, flipped) == 1;
            Check.due("bit " + bit, first ? 1 : 0, 0);
            if (!frame) {
                Check.due("bit " + bit + ": the next is loaded", loaded(false, flipped, b), 1);
            }
        }
        byte[] behind = b.clone();
        behind[33] ^= 1;
        Check.due("a byte behind the head does not count", loaded(false, behind), 1);
    }

    /** One of whose elements would go beyond the head, also its first 4 bytes, or what fills it up. */
    private static void elementBounds() {
        for (int n = 0; n <= 12; n++) {
            App fits = app().raw(99, n);
            for (int i = 0; i < (n + 3) / 4; i++) {
                fits.raw(0, 0);
            }
            Check.due("an element of " + n + " that fits", loaded(fits, app()), 2);
            App less = app().raw(99, n);
            for (int i = 0; i < (n + 3) / 4 - 1; i++) {
                less.raw(0, 0);
            }
            Check.due("an element of " + n + " and 4 bytes less", loaded(less, app()), n == 0 ? 2 : 1);
        }
        int[] lengths = {0x7FFF, 0x8000, 0xFFFC, 0xFFFD, 0xFFFF};
        for (int n : lengths) {
            Check.due("an element of " + n, loaded(app().raw(99, n), app()), 1);
        }
        App late = App.plain(64).raw(99, 476);
        for (int i = 0; i < 119; i++) {
            late.raw(7, 7);
        }
        Check.due("an element up to byte 512", loaded(late.code(SPIN), app()), 2);
        Check.due("elements in front of one that goes beyond do not help", loaded(app().name("x").raw(3, 5, 0, 0)), 0);
    }

    private static byte[] bytes(int n) {
        return new byte[n];
    }

    /** Elements count with the length that is told, others are passed over. */
    private static void elementLengths() {
        for (int n = 0; n <= 24; n++) {
            Check.due("a 1 of " + n, loaded(new App().element(1, bytes(n)).code(SPIN), app()), n == 12 ? 2 : 1);
            Check.due("a 9 of " + n, loaded(new App().element(9, bytes(n)).code(SPIN), app()), n == 20 ? 2 : 1);
        }
        for (int type = 0; type < 300; type++) {
            int n = type == 9 ? 20 : 12;
            int want = type == 1 || type == 9 ? 2 : 1;
            Check.due("type " + type, loaded(new App().element(type, bytes(n)).code(SPIN), app()), want);
        }
        for (int n = 0; n <= 8; n++) {
            Rig rig = Rig.running(App.plain(64).element(7, bytes(n)).code(new Code().command(5, 1, 0, 0).spin())).run(10);
            Check.due("a 7 of " + n, rig.board.register(0, 10), n == 4 ? 128 : 0);
        }
        for (int type = 0; type < 20; type++) {
            Code c = new Code().command(5, 1, 0, 0).command(2, 1, 0, 0).spin();
            Rig rig = Rig.running(App.plain(64).element(type, bytes(4)).element(type, bytes(8)).code(c)).run(6);
            Check.due("a store number by type " + type, rig.board.register(0, 10), type == 7 ? 128 : 0);
            rig.run(10);
            Check.due("permissions by type " + type, rig.board.lamp(0), type == 8 ? 0 : 1);
            App one = App.plain(64).element(type, bytes(2)).code(SPIN);
            Check.due("a name by type " + type, loaded(one, one), type == 3 ? 1 : 2);
        }
    }

    /** The first one of its type with the length that is told counts. */
    private static void firstOfItsType() {
        Rig rig = Rig.running(new App().element(1, bytes(8)).main(0, 40).main(0, 80).code(SPIN));
        Check.due("the first 1 of length 12", rig.board.process(0, 6), 0x20000 + 40);
        rig = Rig.running(new App().element(9, bytes(12)).nine(0, 40, 7).nine(0, 80, 9).code(SPIN));
        Check.due("the first 9 of length 20", rig.board.process(0, 6), 0x20000 + 40);
        Check.due("its version", rig.board.process(0, 13), 7);
        Code asks = new Code().allowRead(5, 0, 0x20000, 4).command(5, 2, 3, 4).spin();
        rig = Rig.running(App.plain(64).element(7, bytes(5)).storeNumber(21).storeNumber(22).code(asks)).run(20);
        Check.due("the first 7 of length 4", rig.board.stored(21, 3, -1), 4);
        Check.due("not the second", rig.board.stored(22, 3, -1), NONE);
        Check.due("the first 3 that is a name", loaded(App.plain(64).element(3, bytes(17)).name("ab").name("cd").code(SPIN),
                App.plain(64).name("ab").code(SPIN), App.plain(64).name("cd").code(SPIN)), 2);
        Code lamp = new Code().command(2, 1, 0, 0).spin();
        rig = Rig.running(App.plain(64).element(8, bytes(4)).permissions(2, 2).permissions(3, 2).code(lamp)).run(10);
        Check.due("the first 8 that counts", rig.board.lamp(0), 1);
        rig = Rig.running(App.plain(64).permissions(3, 2).permissions(2, 2).code(lamp)).run(10);
        Check.due("not the second", rig.board.lamp(0), 0);
    }

    private static void nineBeforeOne() {
        Rig rig = Rig.running(new App().main(0, 40).nine(4, 80, 3).code(new Code().nop().spin()));
        Check.due("a 9 behind a 1", rig.board.process(0, 6), 0x20000 + 80);
        rig = Rig.running(new App().nine(4, 80, 3).main(0, 40).code(new Code().nop().spin()));
        Check.due("a 9 before a 1", rig.board.process(0, 6), 0x20000 + 80);
        rig = Rig.running(new App().main(0, 40).element(9, bytes(16)).code(SPIN));
        Check.due("a 9 of another length: the 1", rig.board.process(0, 6), 0x20000 + 40);
        Check.due("its version is 0", rig.board.process(0, 13), 0);
    }

    /** 3 (length 1 .. 16): its NAME. */
    private static void nameLengths() {
        String long17 = "abcdefghijklmnopq";
        for (int n = 1; n <= 17; n++) {
            String name = long17.substring(0, n);
            App one = App.plain(64).name(name).code(SPIN);
            App two = App.plain(64).name(name).code(SPIN);
            Check.due("a name of " + n, loaded(one, two), n <= 16 ? 1 : 2);
        }
        App none = App.plain(64).element(3).code(SPIN);
        Check.due("a name of 0", loaded(none, none), 2);
        App first = App.plain(64).name(long17.substring(0, 16)).code(SPIN);
        App other = App.plain(64).name(long17.substring(0, 15) + "x").code(SPIN);
        Check.due("the 16th byte counts", loaded(first, other), 2);
        Check.due("a byte 0 counts", loaded(App.plain(64).name("a").code(SPIN),
                App.plain(64).name("a\0").code(SPIN)), 2);
        App large = App.plain(15873).name("xy").code(SPIN);
        Check.due("no name is no name of zeros", loaded(large, app(), named("\0\0", 9)), 2);
        Code asks = new Code().allowReadLabel(7, 0, "t", 2).command(7, 3, 2, 0).spin().label("t").word(0);
        Rig rig = Rig.with(large, App.of(64, asks), named("\0\0", 9));
        rig.board.boot(1, 1, 0, false, 0);
        rig.run(20);
        Check.due("who has the name of zeros", rig.board.register(0, 11), 1);
    }

    /** 8 (length a multiple of 8, 8 .. 64): PERMISSIONS. */
    private static void permissionLengths() {
        Code c = new Code().command(2, 1, 0, 0).spin();
        for (int n = 0; n <= 80; n++) {
            Rig rig = Rig.running(App.plain(64).element(8, bytes(n)).code(c)).run(10);
            boolean counts = n % 8 == 0 && n >= 8 && n <= 64;
            Check.due("an 8 of " + n + " bytes: the lamp", rig.board.lamp(0), counts ? 0 : 1);
        }
        for (int pair = 0; pair < 8; pair++) {
            int[] pairs = new int[16];
            pairs[2 * pair] = 2;
            pairs[2 * pair + 1] = 2;
            Rig rig = Rig.running(App.plain(64).permissions(pairs).code(c)).run(10);
            Check.due("pair " + pair, rig.board.lamp(0), 1);
            rig = Rig.running(App.plain(64).permissions(Arrays.copyOf(pairs, 2 * pair + 2)).code(c)).run(10);
            Check.due("pair " + pair + " of so many", rig.board.lamp(0), 1);
        }
        Rig behind = Rig.running(App.plain(64).permissions(3, -1).raw(2, 0, 2, 0).code(c)).run(10);
        Check.due("what lies behind the element is no pair", behind.board.lamp(0), 0);
        Rig rig = Rig.running(App.plain(64).permissions(1, 2, 5, 7, 9, 9, 2, 0x80000000).code(
                new Code().command(2, 31, 0, 0).spin())).run(10);
        Check.due("bit 31: there is no such command", rig.board.register(0, 11), 10);
    }

    private static byte[] ending(int total, int end) {
        byte[] b = App.program(64, 1).code(SPIN).total(total).bytes();
        Code.put(b, 16 + 4 + 12, end);
        App.check(b, 40);
        if (end >= 40 && end <= b.length - 12) {
            App.sign(b, end);
        }
        return b;
    }

    /** If it is a multiple of 4, from the head's size to TOTAL - 12. */
    private static void binaryEndBounds() {
        int total = 80;
        for (int end = 36; end <= total; end++) {
            boolean so = end % 4 == 0 && end >= 40 && end <= total - 12;
            Check.due("binary end " + end, loaded(true, ending(total, end)), so ? 1 : 0);
        }
        int[] odd = {0, -4, 0x80000000, 0x7FFFFFFC, total + 4, 12, 0x80000028};
        for (int end : odd) {
            Check.due("binary end " + end, loaded(true, ending(total, end)), 0);
            Check.due("but not strict", loaded(false, ending(total, end)), 1);
        }
        for (int end = 41; end < 44; end++) {
            byte[] b = ending(total, end);
            Code.put(b, 40, 8 << 16 | 128);
            Code.put(b, 44, 1);
            CRC32 crc = new CRC32();
            crc.update(b, 0, end);
            Code.put(b, 48, (int) crc.getValue());
            Check.due("binary end " + end + ", credentials at 40", loaded(true, b), 0);
        }
        for (int end = 44; end <= 64; end += 4) {
            byte[] b = Arrays.copyOf(ending(52, end), 80);
            App.sign(b, end);
            Check.due("credentials that go beyond the app, at " + end, loaded(true, b), 0);
        }
        Check.due("a total of 52: 40 alone", loaded(true, ending(52, 40)), 1);
        Check.due("a total of 48: none", loaded(true, ending(48, 40)), 0);
        Check.due("without a 9 the binary end is TOTAL: none", loaded(true, App.plain(64).code(SPIN).signed().bytes()), 0);
        Check.due("that app when not strict", loaded(false, App.plain(64).code(SPIN).signed().bytes()), 1);
        byte[] b = App.plain(64).raw(40, 0).code(SPIN).total(64).bytes();
        App.sign(b, 40);
        Check.due("nor is it a word that lies where a 9 would have it", loaded(true, b), 0);
        Check.due("that app when not strict", loaded(false, b), 1);
    }

    private static void eachByteOfCredentials() {
        byte[] b = ending(80, 44);
        for (int i = 44; i < 56; i++) {
            byte[] changed = b.clone();
            changed[i] ^= 4;
            Check.due("byte " + (i - 44) + " of the credentials", loaded(true, changed), 0);
            Check.due("passed by, the next is loaded", loaded(true, changed, ending(80, 44)), 1);
        }
        byte[] behind = b.clone();
        behind[56] ^= 4;
        Check.due("a byte behind them", loaded(true, behind), 1);
    }

    private static void crcOfAllBefore() {
        byte[] b = ending(80, 60);
        byte[] last = b.clone();
        last[59] ^= 1;
        Check.due("the last byte before the binary end", loaded(true, last), 0);
        byte[] first = b.clone();
        first[41] ^= 1;
        Check.due("a byte behind the head", loaded(true, first), 0);
    }

    /** Not loaded is one whose RAM (as told) is above 15872. */
    private static void ramBounds() {
        int[] rams = {0, 1, 15871, 15872, 15873, 15876, 16384, 65536, 0x7FFFFFFF, 0x80000000, -1, -512};
        for (int ram : rams) {
            boolean fits = ram >= 0 && ram <= 15872;
            Check.due("ram " + ram, loaded(App.plain(ram).code(SPIN), app()), fits ? 2 : 1);
        }
    }

    private static App named(String name, int version) {
        return App.program(64, version).name(name).code(SPIN);
    }

    private static void which(String what, int want, int... versions) {
        App[] apps = new App[versions.length];
        for (int i = 0; i < apps.length; i++) {
            apps[i] = named("n", versions[i]);
        }
        Rig rig = Rig.with(apps);
        Check.due(what, rig.board.boot(0, 1, 0, false, 0), 1);
        Check.due(what + ": which", rig.board.process(0, 2), 0x10000 + want * apps[0].bytes().length);
    }

    /** A greater version (without sign), or the same and it lies before. */
    private static void versions() {
        which("the same", 0, 5, 5);
        which("one more", 1, 5, 6);
        which("one less", 0, 6, 5);
        which("three the same", 0, 0, 0, 0);
        which("the greatest is all ones", 1, 0x7FFFFFFF, -1, 0x80000000);
        which("with the highest bit", 2, 0, 0x7FFFFFFF, 0x80000000);
        which("the middle one", 1, 1, 3, 2);
        Check.due("a 1 has version 0: the first", loaded(App.plain(64).name("n").code(SPIN), named("n", 0)), 1);
        Rig rig = Rig.with(App.plain(64).name("n").code(SPIN), named("n", 1));
        rig.boot();
        Check.due("a 1 has version 0, 1 is greater", rig.board.process(0, 13), 1);
        Check.due("no name is no name", loaded(app(), app(), named("n", 9)), 3);
    }

    /** Another app counts if it is neither passed over nor without credentials (strict) nor with too much RAM. */
    private static void namesOfThoseThatDoNotCount() {
        byte[] old = named("n", 1).signed().bytes();
        byte[] spoilt = named("n", 2).signed().spoilt().bytes();
        byte[] disabled = named("n", 2).flags(0).signed().bytes();
        byte[] large = App.program(15873, 2).name("n").code(SPIN).signed().bytes();
        byte[] most = App.program(15872, 2).name("n").code(SPIN).signed().bytes();
        byte[] bare = named("n", 2).bytes();
        for (int strict = 0; strict < 2; strict++) {
            boolean s = strict == 1;
            Check.due("passed over by its check", address(s, old, spoilt), 0x10000);
            Check.due("not enabled", address(s, old, disabled), 0x10000);
            Check.due("too much ram", address(s, old, large), 0x10000);
            Check.due("just enough", address(s, old, most), 0x10000 + old.length);
            Check.due("without credentials", address(s, old, bare), s ? 0x10000 : 0x10000 + old.length);
        }
        byte[] full = join(App.plain(15872).code(SPIN).bytes(), App.plain(15872).code(SPIN).bytes(),
                App.plain(15872).code(SPIN).bytes(), App.plain(15872).code(SPIN).bytes());
        Check.due("one for which there is no room counts all the same", loaded(false, full, old, bare), 4);
    }

    private static int address(boolean strict, byte[]... parts) {
        Rig rig = new Rig().burn(Rig.FLASH, join(parts));
        Check.due("one is loaded", rig.board.boot(0, 1, 0, strict, 0), 1);
        return rig.board.process(0, 2);
    }

    private static void eightProcesses() {
        for (int n = 7; n <= 10; n++) {
            App[] apps = new App[n];
            Arrays.setAll(apps, i -> app());
            Rig rig = Rig.with(apps);
            Check.due(n + " apps", rig.board.boot(0, 1, 0, false, 0), Math.min(n, 8));
            Check.due("processes", rig.board.count(1), Math.min(n, 8));
            Check.due("the eighth", rig.board.process(7, 0), n < 8 ? NONE : 1);
            Check.due("a ninth", rig.board.process(8, 0), NONE);
        }
    }

    /** Its BLOCK begins at the first multiple of its size behind the blocks before it. */
    private static void roomInRam() {
        int[][] rams = {
            {15872, 15872, 15872, 15872}, {15872, 15872, 15872, 15872, 0}, {0, 15872, 15872, 15872, 15872},
            {0, 15872, 15872, 15872, 512}, {15872, 15872, 15872, 7680, 7680}, {15872, 15872, 15872, 7680, 512, 7680},
            {15872, 15872, 15872, 7680, 512, 3584, 512}, {512, 513, 512, 1537, 512, 3585, 512, 7681},
        };
        int[] want = {4, 4, 4, 4, 5, 5, 6, 8};
        int[][] begins = {
            {0, 0x4000, 0x8000, 0xC000}, {0, 0x4000, 0x8000, 0xC000}, {0, 0x4000, 0x8000, 0xC000},
            {0, 0x4000, 0x8000, 0xC000}, {0, 0x4000, 0x8000, 0xC000, 0xE000}, {0, 0x4000, 0x8000, 0xC000, 0xE000},
            {0, 0x4000, 0x8000, 0xC000, 0xE000, 0xF000}, {0, 0x800, 0x1000, 0x2000, 0x3000, 0x4000, 0x6000, 0x8000},
        };
        for (int i = 0; i < rams.length; i++) {
            App[] apps = new App[rams[i].length];
            for (int k = 0; k < apps.length; k++) {
                apps[k] = App.plain(rams[i][k]).code(SPIN);
            }
            Rig rig = Rig.with(apps);
            Check.due("row " + i, rig.board.boot(0, 1, 0, false, 0), want[i]);
            for (int k = 0; k < begins[i].length; k++) {
                Check.due("row " + i + " block " + k, rig.board.process(k, 4), 0x20000 + begins[i][k]);
            }
            Check.due("audit", rig.board.audit(), 0);
        }
    }

    /** Processes are numbered 0, 1, .. as they are loaded. */
    private static void numbering() {
        Rig rig = Rig.with(app().spoilt(), App.plain(15873).code(SPIN), app(), app().flags(0), app(), new App());
        Check.due("two of six", rig.board.boot(0, 1, 0, false, 0), 2);
        Check.due("process 0", rig.board.process(0, 2), 0x10000 + 72);
        Check.due("process 1", rig.board.process(1, 2), 0x10000 + 144);
        Check.due("no process 2", rig.board.process(2, 2), NONE);
    }
}

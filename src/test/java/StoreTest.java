import java.util.ArrayList;
import java.util.Arrays;
import java.util.LinkedHashMap;
import java.util.List;
import java.util.Map;
import java.util.Random;

/** Part 8: the store, with power cuts; promise 24. */
public final class StoreTest {
    private static final int RAM = 0x20000;
    private static final int ONE = 0x1F000, TWO = 0x1F800;
    private static final int MARK = 0x4B560000;
    private static final int NONE = GrantBoard.NONE;

    public static void main(String[] args) {
        putAndGet();
        commandErrors();
        lengths();
        overwriteAndDelete();
        numbersAreApart();
        checkOfAllOnes();
        firstBoot();
        whichBankCounts();
        whereRecordsEnd();
        compactedAtBoot();
        compactedWhenFull();
        justRoomOnceCompacted();
        noRoom();
        numberOfAllOnes();
        cutAtEachWrite();
        cutAtEachWriteOfBoot();
        toldAsFlashIsNow();
        againstAModel();
        Check.finish();
    }

    /** A row of the table: command, key, length, and a byte that fills the buffer. */
    private static final class Ask {
        final int command;
        final int key;
        final int length;
        final int fill;

        Ask(int command, int key, int length, int fill) {
            this.command = command;
            this.key = key;
            this.length = length;
            this.fill = fill;
        }
    }

    private static Ask put(int key, int length, int fill) {
        return new Ask(2, key, length, fill);
    }

    private static Ask get(int key) {
        return new Ask(1, key, 0, 0);
    }

    private static Ask delete(int key) {
        return new Ask(3, key, 0, 0);
    }

    /** Asks for each row; keeps a0 of the command and the upcall's numbers from RAM + 128 on. */
    private static App asking(int number, Ask... asks) {
        Code c = new Code().subscribe(5, 0, "f", 0).allowRead(5, 0, RAM, 32).allowWrite(5, 0, RAM + 64, 32)
                .la(Code.S0, "table").li(Code.S1, RAM + 128).li(Code.S2, asks.length);
        c.label("loop").branch(0, Code.S2, 0, "done").lw(Code.T0, Code.S0, 12).li(Code.T1, RAM);
        for (int i = 0; i < 32; i += 4) {
            c.sw(Code.T1, Code.T0, i);
        }
        c.li(Code.A0, 5).lw(Code.A1, Code.S0, 0).lw(Code.A2, Code.S0, 4).lw(Code.A3, Code.S0, 8).li(Code.A4, 2).ecall()
                .sw(Code.S1, Code.A0, 0).li(Code.T2, 128).branch(1, Code.A0, Code.T2, "next")
                .yieldFor(5, 0).sw(Code.S1, Code.A0, 4).sw(Code.S1, Code.A1, 8).sw(Code.S1, Code.A2, 12)
                .label("next").addi(Code.S0, Code.S0, 16).addi(Code.S1, Code.S1, 16).addi(Code.S2, Code.S2, -1).j("loop")
                .label("done").yieldWait().label("f").spin().label("table");
        for (Ask a : asks) {
            c.word(a.command).word(a.key).word(a.length).word(a.fill * 0x01010101);
        }
        return App.plain(2048).storeNumber(number).code(c);
    }

    private static Rig asked(int number, Ask... asks) {
        Rig rig = Rig.with(asking(number, asks));
        rig.board.boot(0, 1000, 0, false, 0);
        rig.run(60 + 50 * asks.length);
        rig.state("asked all", 0, 2);
        return rig;
    }

    private static void answers(String what, Rig rig, int row, int error, int length, int key) {
        rig.kept(what, RAM + 128 + 16 * row, 128, error, length, key);
    }

    private static void putAndGet() {
        Rig rig = asked(7, put(5, 6, 0xAB), get(5), get(6));
        answers("put", rig, 0, 0, 6, 5);
        answers("get", rig, 1, 0, 6, 5);
        answers("get none", rig, 2, 10, 0, 6);
        Check.due("value", rig.word(RAM + 64), 0xABABABAB);
        Check.due("value's end", rig.word(RAM + 68), 0xABAB);
        int[] record = {MARK, 7, 5, 6, 0xABABABAB, 0xABAB, 0, -1};
        record[6] = 7 ^ 5 ^ 6 ^ 0xABABABAB ^ 0xABAB ^ 0x5A5A5A5A;
        for (int i = 0; i < record.length; i++) {
            Check.due("flash " + i, rig.word(ONE + 4 * i), record[i]);
        }
        Check.due("writes", rig.board.count(4), 2 + 6);
        Check.due("stored", rig.board.stored(7, 5, -1), 6);
        Check.due("byte 0", rig.board.stored(7, 5, 0), 0xAB);
        Check.due("byte 5", rig.board.stored(7, 5, 5), 0xAB);
        Check.due("byte 6", rig.board.stored(7, 5, 6), NONE);
        Check.due("byte -2", rig.board.stored(7, 5, -2), NONE);
        Check.due("another key", rig.board.stored(7, 6, -1), NONE);
        Check.due("another number", rig.board.stored(8, 5, -1), NONE);
        rig.board.off();
        Check.due("when off", rig.board.stored(7, 5, -1), 6);
        rig.board.boot(0, 1, 0, false, 0);
        Check.due("after boot", rig.board.stored(7, 5, -1), 6);
        Check.due("nothing written by that", rig.board.count(4), 2 + 6);
    }

    private static void commandErrors() {
        Code c = new Code().command(5, 2, 5, 0).keep(RAM).allowRead(5, 0, RAM, 8).command(5, 2, 5, 9).keep(RAM + 16)
                .command(5, 2, 5, 33).keep(RAM + 32).command(5, 2, 5, -1).keep(RAM + 48).command(5, 2, 6, 8)
                .keep(RAM + 64).command(5, 2, 5, 1).allowRead(5, 0, RAM, 64).command(5, 2, 9, 33).keep(RAM + 80).spin();
        Rig rig = Rig.running(App.plain(256).storeNumber(1).code(c)).run(150);
        rig.kept("no bytes need no buffer", RAM, 128);
        rig.kept("beyond the buffer", RAM + 16, 0, 7);
        rig.kept("33", RAM + 32, 0, 7);
        rig.kept("-1", RAM + 48, 0, 7);
        rig.kept("all of it", RAM + 64, 128);
        rig.kept("33 of 64", RAM + 80, 0, 7);
        Check.due("no bytes at first, then one", rig.board.stored(1, 5, -1), 1);
        rig = Rig.running(App.plain(256).code(new Code().command(5, 0, 0, 0).keep(RAM).command(5, 1, 0, 0)
                .keep(RAM + 16).call(1, 5, 0, 0x10000, 0).keep(RAM + 32).spin())).run(60);
        rig.kept("without a store number: 0", RAM, 128);
        rig.kept("without a store number", RAM + 16, 0, 10);
        rig.kept("it may subscribe", RAM + 32, 130);
        Code small = new Code().allowRead(5, 0, RAM, 32).li(Code.T0, -1).li(Code.T1, RAM).sw(Code.T1, Code.T0, 0)
                .sw(Code.T1, Code.T0, 4).command(5, 2, 1, 8).allowWrite(5, 0, RAM + 64, 3).command(5, 1, 1, 0).spin();
        rig = Rig.running(App.plain(256).storeNumber(1).code(small)).run(60);
        Check.due("as far as the buffer goes", rig.word(RAM + 64), 0x00FFFFFF);
    }

    private static void lengths() {
        Rig rig = asked(7, put(1, 0, 9), put(2, 1, 9), put(3, 4, 9), put(4, 31, 9), put(5, 32, 9), get(5));
        int[] want = {0, 1, 4, 31, 32};
        int[] sizes = {16, 20, 20, 48, 48};
        int at = ONE + 4;
        for (int k = 0; k < 5; k++) {
            Check.due("length", rig.board.stored(7, k + 1, -1), want[k]);
            Check.due("record's length", rig.word(at + 8), want[k]);
            at += sizes[k];
        }
        Check.due("the end", rig.word(at), -1);
        Check.due("all of 32", rig.word(RAM + 64 + 28), 0x09090909);
        Check.due("bytes behind are 0", rig.word(ONE + 4 + 16 + 20 + 20 + 12 + 28), 0x00090909);
        Check.due("length 0 has no byte", rig.board.stored(7, 1, 0), NONE);
    }

    private static void overwriteAndDelete() {
        Rig rig = asked(7, put(1, 4, 1), put(1, 8, 2), get(1), delete(1), get(1), delete(1), put(1, 2, 3));
        answers("second", rig, 1, 0, 8, 1);
        answers("get", rig, 2, 0, 8, 1);
        answers("delete", rig, 3, 0, 0, 1);
        answers("get none", rig, 4, 10, 0, 1);
        answers("delete none", rig, 5, 10, 0, 1);
        answers("put again", rig, 6, 0, 2, 1);
        Check.due("stored", rig.board.stored(7, 1, -1), 2);
        Check.due("byte", rig.board.stored(7, 1, 1), 3);
        int at = ONE + 4 + 20 + 24;
        Check.due("a record of no value", rig.word(at + 8), 255);
        Check.due("its check", rig.word(at + 12), 7 ^ 1 ^ 255 ^ 0x5A5A5A5A);
    }

    private static void numbersAreApart() {
        Rig rig = Rig.with(asking(7, get(1), put(1, 4, 1), delete(1)));
        rig.burnWords(ONE, MARK | 3).burnWords(ONE + 4, 8, 1, 0, 8 ^ 1 ^ 0x5A5A5A5A);
        rig.board.boot(0, 1000, 0, false, 0);
        rig.run(300);
        answers("another number's value", rig, 0, 10, 0, 1);
        answers("its own", rig, 2, 0, 0, 1);
        Check.due("none any more", rig.board.stored(7, 1, -1), NONE);
        Check.due("the other number's stays", rig.board.stored(8, 1, -1), 0);
        rig = asked(-2, put(-1, 4, 1));
        Check.due("a key of all ones", rig.board.stored(-2, -1, -1), 4);
        rig = asked(0, put(0, 4, 0), get(0));
        answers("zeros", rig, 1, 0, 4, 0);
    }

    private static void checkOfAllOnes() {
        int key = ~(1 ^ 4 ^ 0x5A5A5A5A ^ 0x07070707);
        Rig rig = asked(1, put(key, 4, 7), get(key));
        Check.due("0 in place of all ones", rig.word(ONE + 4 + 16), 0);
        answers("get", rig, 1, 0, 4, key);
        rig.board.off();
        rig.burnWords(ONE + 4 + 16, -1);
        Check.due("all ones are no check", rig.board.stored(1, key, -1), NONE);
    }

    private static void firstBoot() {
        Rig rig = new Rig();
        rig.burnWords(TWO + 100, 5);
        rig.burnWords(ONE + 2044, 5);
        rig.board.boot(0, 1, 0, false, 0);
        Check.due("marked", rig.word(ONE), MARK);
        Check.due("erased", rig.word(ONE + 2044), -1);
        Check.due("the other stays", rig.word(TWO + 100), 5);
        Check.due("two writes", rig.board.count(4), 2);
    }

    /** A record of number 1 and key 1 with one byte. */
    private static int[] record(int v) {
        return new int[] {1, 1, 1, v, 1 ^ 1 ^ 1 ^ v ^ 0x5A5A5A5A};
    }

    private static void counts(String what, int first, int second, int want) {
        Rig rig = new Rig();
        rig.burnWords(ONE, first).burnWords(ONE + 4, record(10));
        rig.burnWords(TWO, second).burnWords(TWO + 4, record(20));
        rig.board.boot(0, 1, 0, false, 0);
        Check.due(what, rig.board.stored(1, 1, 0), want);
        Check.due(what + " writes", rig.board.count(4), want == NONE ? 2 : 0);
    }

    private static void whichBankCounts() {
        counts("just the first", MARK | 5, 0, 10);
        counts("just the second", 0x4B570000, MARK, 20);
        counts("just the second", -1, MARK | 0xFFFF, 20);
        counts("none", 0, 0x4B56, NONE);
        counts("the second is 1 more", MARK | 5, MARK | 6, 20);
        counts("the first is 1 more", MARK | 6, MARK | 5, 10);
        counts("the same", MARK | 6, MARK | 6, 10);
        counts("over the end", MARK | 0xFFFF, MARK, 20);
        counts("over the end", MARK, MARK | 0xFFFF, 10);
        counts("32767 more", MARK, MARK | 32767, 20);
        counts("32768 more", MARK, MARK | 32768, 10);
        counts("32769 more", MARK, MARK | 32769, 10);
        counts("32768 more", MARK | 32768, MARK, 10);
        counts("32767 more", MARK | 40000, MARK | (40000 + 32767 & 0xFFFF), 20);
    }

    private static void ends(String what, int... words) {
        Rig rig = new Rig();
        rig.burnWords(ONE, MARK | 9).burnWords(ONE + 4, record(10)).burnWords(ONE + 24, words);
        rig.board.cut(0);
        Check.due(what + ": not clean", rig.board.boot(0, 1, 0, false, 0), GrantBoard.LOST);
        Check.due(what, rig.board.stored(1, 1, 0), 10);
        Check.due(what + " key 2", rig.board.stored(2, 2, -1), NONE);
        Check.due(what + " number of all ones", rig.board.stored(-1, 2, -1), NONE);
        Check.due(what + ": then compacted", rig.board.boot(0, 1, 0, false, 0), 0);
        Check.due(what + " serial", rig.word(TWO), MARK | 10);
        Check.due(what + " record", rig.word(TWO + 16), 10);
        Check.due(what + " clean", rig.word(TWO + 24), -1);
        Check.due(what + " the old bank stays", rig.word(ONE), MARK | 9);
    }

    private static void whereRecordsEnd() {
        int sum = 0x5A5A5A5A;
        ends("a length of 33", 2, 2, 33, 0, 0, 0, 0, 0, 0, 0, 0, 0, sum ^ 33);
        ends("a length of 254", 2, 2, 254, sum ^ 254);
        ends("a length with a sign", 2, 2, 0x80000004, 0, sum ^ 0x80000004);
        ends("a check not so", 2, 2, 4, 0, sum ^ 5);
        ends("nothing behind the length", 2, 2, 4);
        ends("all ones where one would begin", -1, 2, 4, 0, sum ^ -1 ^ 2 ^ 4);
        Rig rig = new Rig();
        rig.burnWords(ONE, MARK | 9).burnWords(ONE + 4, record(10)).burnWords(ONE + 2044, 0);
        rig.board.boot(0, 1, 0, false, 0);
        Check.due("the last word not clean", rig.word(TWO), MARK | 10);
        rig = new Rig();
        rig.burnWords(ONE, MARK | 9).burnWords(ONE + 4, record(10));
        rig.burn(ONE + 2047, new byte[] {(byte) 254});
        rig.board.boot(0, 1, 0, false, 0);
        Check.due("the last byte not clean", rig.word(TWO), MARK | 10);
    }

    /** A bank full of records, whose last one goes on into what is left. */
    private static Rig full(int left, int... last) {
        Rig rig = new Rig();
        int[] words = new int[512 - left / 4];
        words[0] = MARK;
        int at = 1;
        int key = 100;
        while (at + 4 <= words.length) {
            int spare = words.length - at - 4;
            int length = Math.min(32, 4 * spare);
            if (spare > 8 && spare < 12) {
                length = 4;
            }
            int check = 1 ^ key ^ length ^ 0x5A5A5A5A;
            words[at] = 1;
            words[at + 1] = key;
            words[at + 2] = length;
            at += 3 + length / 4;
            words[at] = check;
            at++;
            key++;
        }
        Check.due("filled", at, words.length);
        rig.burnWords(ONE, words);
        if (last.length > 0) {
            rig.burnWords(TWO - left, last);
        }
        return rig;
    }

    private static void compactedAtBoot() {
        Rig rig = full(16, 1, 1, 255, 1 ^ 1 ^ 255 ^ 0x5A5A5A5A);
        rig.board.boot(0, 1, 0, false, 0);
        Check.due("16 bytes left, a record of 16: clean", rig.board.count(4), 0);
        rig = full(12);
        rig.board.boot(0, 1, 0, false, 0);
        Check.due("12 bytes left: clean", rig.board.count(4), 0);
        rig = full(0);
        rig.board.boot(0, 1, 0, false, 0);
        Check.due("none left: clean", rig.board.count(4), 0);
        rig = full(16, 1, 1, 4, 0);
        rig.board.boot(0, 1, 0, false, 0);
        Check.due("beyond the bank: not clean", rig.word(TWO), MARK | 1);
        rig = full(16, 9, 9, 4, 0);
        rig.burnWords(TWO, 9 ^ 9 ^ 4 ^ 0x5A5A5A5A);
        rig.board.boot(0, 1, 0, false, 0);
        Check.due("beyond the bank: no record", rig.board.stored(9, 9, -1), NONE);
        rig = full(12, 9, 9, 0);
        rig.burnWords(TWO, 9 ^ 9 ^ 0x5A5A5A5A);
        rig.board.boot(0, 1, 0, false, 0);
        Check.due("fewer than 16 bytes left: no record", rig.board.stored(9, 9, -1), NONE);
        rig = full(12, 1, 1, 0);
        rig.board.boot(0, 1, 0, false, 0);
        Check.due("fewer than 16 bytes left, but not clean", rig.word(TWO), MARK | 1);

        int[] words = {MARK | 0xFFFF, 1, 1, 0, 1 ^ 1 ^ 0x5A5A5A5A, 1, 2, 4, 0x77, 1 ^ 2 ^ 4 ^ 0x77 ^ 0x5A5A5A5A,
            2, 1, 0, 2 ^ 1 ^ 0x5A5A5A5A, 1, 1, 4, 5, 1 ^ 1 ^ 4 ^ 5 ^ 0x5A5A5A5A,
            2, 1, 255, 2 ^ 1 ^ 255 ^ 0x5A5A5A5A, 3, 1, 3, 0x44332211, 3 ^ 1 ^ 3 ^ 0x44332211 ^ 0x5A5A5A5A, 9};
        rig = new Rig();
        rig.burnWords(ONE, words);
        rig.burn(TWO, new byte[2048]);
        rig.board.boot(0, 1, 0, false, 0);
        int[] want = {MARK, 1, 2, 4, 0x77, 1 ^ 2 ^ 4 ^ 0x77 ^ 0x5A5A5A5A, 1, 1, 4, 5, 1 ^ 1 ^ 4 ^ 5 ^ 0x5A5A5A5A,
            3, 1, 3, 0x44332211, 3 ^ 1 ^ 3 ^ 0x44332211 ^ 0x5A5A5A5A, -1};
        for (int i = 0; i < want.length; i++) {
            Check.due("compacted " + i, rig.word(TWO + 4 * i), want[i]);
        }
        Check.due("erased to the end", rig.word(TWO + 2044), -1);
        Check.due("writes", rig.board.count(4), 1 + 15 + 1);
        Check.due("stored", rig.board.stored(3, 1, 2), 0x33);
        rig.board.off();
        rig.board.boot(0, 1, 0, false, 0);
        Check.due("the serial went over the end: the second counts", rig.board.count(4), 17);
    }

    private static void compactedWhenFull() {
        Ask[] asks = new Ask[46];
        for (int i = 0; i < asks.length; i++) {
            asks[i] = put(i % 3, 32, i);
        }
        Rig rig = asked(7, asks);
        Check.due("in the second bank", rig.word(TWO), MARK | 1);
        Check.due("the first as it was", rig.word(ONE), MARK);
        Check.due("writes", rig.board.count(4), 2 + 42 * 12 + (1 + 36 + 1) + 4 * 12);
        Check.due("stored", rig.board.stored(7, 0, 31), 45);
        Check.due("stored", rig.board.stored(7, 1, 0), 43);
        Check.due("stored", rig.board.stored(7, 2, 0), 44);
        Check.due("the last of those that were there", rig.word(TWO + 4 + 12 + 48 * 2), 41 * 0x01010101);
        for (int i = 0; i < asks.length; i++) {
            Check.due("answered " + i, rig.word(RAM + 128 + 16 * i + 4), 0);
        }
    }

    private static void justRoomOnceCompacted() {
        Ask[] asks = new Ask[44];
        asks[0] = put(0, 0, 1);
        for (int i = 1; i < 42; i++) {
            asks[i] = put(i, 32, i);
        }
        asks[42] = put(0, 32, 2);
        asks[43] = put(98, 12, 3);
        Rig rig = asked(7, asks);
        answers("just fits then", rig, 43, 0, 12, 98);
        Check.due("compacted", rig.word(TWO), MARK | 1);
        Check.due("the last word of the bank is its check", rig.word(TWO + 2044),
                7 ^ 98 ^ 12 ^ 0x03030303 ^ 0x03030303 ^ 0x03030303 ^ 0x5A5A5A5A);
        rig.board.off();
        rig.board.boot(0, 1, 0, false, 0);
        Check.due("stored", rig.board.stored(7, 98, -1), 12);
    }

    private static void noRoom() {
        Ask[] asks = new Ask[46];
        for (int i = 0; i < 42; i++) {
            asks[i] = put(i, 32, i);
        }
        asks[42] = put(99, 32, 5);
        asks[43] = put(98, 12, 5);
        asks[44] = put(97, 0, 5);
        asks[45] = delete(3);
        Rig rig = asked(7, asks);
        answers("the last that fits", rig, 41, 0, 32, 41);
        answers("no room", rig, 42, 9, 32, 99);
        answers("just fits", rig, 43, 0, 12, 98);
        answers("no room for 16 bytes", rig, 44, 9, 0, 97);
        answers("no room to delete", rig, 45, 9, 0, 3);
        Check.due("not stored", rig.board.stored(7, 99, -1), NONE);
        Check.due("stored", rig.board.stored(7, 98, -1), 12);
        Check.due("still stored", rig.board.stored(7, 3, -1), 32);
        Check.due("each time it was compacted", rig.word(TWO) & 0xFFFF, 3);
    }

    private static void numberOfAllOnes() {
        Rig rig = asked(-1, put(5, 4, 1), get(5), delete(5));
        answers("no room", rig, 0, 9, 4, 5);
        answers("none", rig, 1, 10, 0, 5);
        answers("none", rig, 2, 10, 0, 5);
        Check.due("nothing written", rig.board.count(4), 2);
        Check.due("not stored", rig.board.stored(-1, 5, -1), NONE);
    }

    private static void cutAtEachWrite() {
        App app = asking(7, put(1, 8, 0x22));
        for (int n = 0; n <= 6; n++) {
            Rig rig = Rig.with(app);
            rig.burnWords(ONE, MARK | 3);
            rig.burnWords(ONE + 4, 7, 1, 4, 0x11111111, 7 ^ 1 ^ 4 ^ 0x11111111 ^ 0x5A5A5A5A);
            rig.board.boot(0, 1000, 0, false, 0);
            rig.board.cut(n);
            int got = rig.board.run(300);
            Check.due("run with " + n, got, n < 6 ? GrantBoard.LOST : 300);
            Check.due("on", rig.board.count(0), n < 6 ? 0 : 1);
            Check.due("time is lost", rig.board.count(2), n < 6 ? 0 : 300);
            Check.due("writes", rig.board.count(4), n);
            Check.due("nobody is told", rig.board.count(6), n < 6 ? 0 : 1);
            Check.due("calls", rig.board.count(5), n < 6 ? 4 : 6);
            Check.due("stored", rig.board.stored(7, 1, -1), n < 6 ? 4 : 8);
            Check.due("flash " + n, rig.word(ONE + 24 + 4 * n), -1);
            if (n < 6) {
                Check.due("process", rig.board.process(0, 0), GrantBoard.STATE);
                Check.due("boot", rig.board.boot(0, 1000, 0, false, 0), 1);
                Check.due("stored then", rig.board.stored(7, 1, -1), 4);
                Check.due("compacted if words were put", rig.word(TWO), n == 0 ? -1 : MARK | 4);
                Check.due("and then it is put", rig.board.run(300), 300);
                Check.due("stored at last", rig.board.stored(7, 1, -1), 8);
            }
        }
    }

    private static void cutAtEachWriteOfBoot() {
        int[] words = {MARK | 8, 1, 1, 4, 5, 1 ^ 1 ^ 4 ^ 5 ^ 0x5A5A5A5A, 2, 1, 0, 2 ^ 1 ^ 0x5A5A5A5A, 9};
        for (int n = 0; n <= 11; n++) {
            Rig rig = new Rig();
            rig.burnWords(TWO, words);
            rig.burnWords(ONE + 1000, 0).burnWords(ONE + 1040, 0);
            rig.board.cut(n);
            Check.due("boot with " + n, rig.board.boot(0, 1, 0, false, 0), n < 11 ? GrantBoard.LOST : 0);
            Check.due("writes", rig.board.count(4), n);
            Check.due("stored", rig.board.stored(1, 1, 0), 5);
            Check.due("half erased", rig.word(ONE + 1000), -1);
            Check.due("half erased", rig.word(ONE + 1040), n == 0 ? 0 : -1);
            Check.due("the head comes last", rig.word(ONE), n < 11 ? -1 : MARK | 9);
            if (n < 11) {
                Check.due("boot again", rig.board.boot(0, 1, 0, false, 0), 0);
                Check.due("stored then", rig.board.stored(1, 1, 0), 5);
                Check.due("compacted anew", rig.word(ONE), MARK | 9);
            }
        }
    }

    private static void toldAsFlashIsNow() {
        Rig rig = asked(7, put(1, 4, 1));
        rig.board.off();
        rig.burnWords(TWO, MARK | 1, 7, 1, 0, 7 ^ 1 ^ 0x5A5A5A5A);
        Check.due("the bank that counted", rig.board.stored(7, 1, -1), 4);
        rig.board.boot(0, 1, 0, false, 0);
        Check.due("now the other", rig.board.stored(7, 1, -1), 0);
        rig.board.off();
        rig.burnWords(TWO + 4, -1);
        Check.due("as flash is now", rig.board.stored(7, 1, -1), NONE);
    }

    /** The document's words once more: the store over a row of words. */
    private static final class Model {
        final int[] f = new int[1024];
        int bank;
        int cut = -1;
        int writes;
        boolean lost;
        final List<int[]> seen = new ArrayList<>();
        int end;

        boolean write() {
            if (lost) {
                return false;
            }
            if (cut == 0) {
                cut = -1;
                lost = true;
                return false;
            }
            if (cut > 0) {
                cut--;
            }
            writes++;
            return true;
        }

        void word(int at, int v) {
            if (write()) {
                f[at] = v;
            }
        }

        void erase(int b) {
            if (lost) {
                return;
            }
            Arrays.fill(f, 512 * b, 512 * b + (write() ? 512 : 256), -1);
        }

        void read() {
            seen.clear();
            end = 512 * bank + 1;
            int stop = 512 * bank + 512;
            while (stop - end >= 4 && f[end] != -1) {
                int length = f[end + 2];
                if (length != 255 && (length < 0 || length > 32)) {
                    return;
                }
                int n = length == 255 ? 0 : (length + 3) / 4;
                if (end + 4 + n > stop) {
                    return;
                }
                int x = 0x5A5A5A5A;
                for (int i = 0; i < 3 + n; i++) {
                    x ^= f[end + i];
                }
                if (f[end + 3 + n] != (x == -1 ? 0 : x)) {
                    return;
                }
                seen.add(Arrays.copyOfRange(f, end, end + 4 + n));
                end += 4 + n;
            }
        }

        Map<Long, int[]> values() {
            Map<Long, int[]> m = new LinkedHashMap<>();
            for (int[] r : seen) {
                long k = (long) r[0] << 32 | r[1] & 0xFFFFFFFFL;
                m.remove(k);
                if (r[2] != 255) {
                    m.put(k, r);
                }
            }
            return m;
        }

        void compact() {
            int other = 1 - bank;
            erase(other);
            int at = 512 * other + 1;
            for (int[] r : values().values()) {
                for (int w : r) {
                    word(at++, w);
                }
            }
            word(512 * other, MARK | f[512 * bank] + 1 & 0xFFFF);
            if (!lost) {
                bank = other;
            }
        }

        void boot() {
            boolean one = f[0] >>> 16 == 0x4B56;
            boolean two = f[512] >>> 16 == 0x4B56;
            int more = f[512] - f[0] & 0xFFFF;
            bank = two && (!one || more >= 1 && more < 32768) ? 1 : 0;
            if (!one && !two) {
                erase(0);
                word(0, MARK);
            }
            read();
            for (int i = end; i < 512 * bank + 512; i++) {
                if (f[i] != -1 && !lost) {
                    compact();
                    break;
                }
            }
        }

        int put(int number, int key, int length, int fill) {
            int n = length == 255 ? 0 : (length + 3) / 4;
            read();
            if (end + 4 + n > 512 * bank + 512) {
                compact();
                if (lost) {
                    return -1;
                }
                read();
                if (end + 4 + n > 512 * bank + 512) {
                    return 9;
                }
            }
            int[] r = new int[4 + n];
            r[0] = number;
            r[1] = key;
            r[2] = length;
            for (int i = 0; length != 255 && i < length; i++) {
                r[3 + i / 4] |= fill << 8 * (i % 4);
            }
            int x = 0x5A5A5A5A;
            for (int w : r) {
                x ^= w;
            }
            r[3 + n] = x == -1 ? 0 : x;
            int at = end;
            for (int w : r) {
                word(at++, w);
            }
            return 0;
        }

        int delete(int number, int key) {
            read();
            if (!values().containsKey((long) number << 32 | key & 0xFFFFFFFFL)) {
                return 10;
            }
            return put(number, key, 255, 0);
        }
    }

    private static void againstAModel() {
        Random random = new Random(11);
        for (int round = 0; round < 60; round++) {
            Ask[] asks = new Ask[40];
            int keys = 1 + random.nextInt(round % 2 == 0 ? 4 : 60);
            for (int i = 0; i < asks.length; i++) {
                int key = random.nextInt(keys);
                asks[i] = random.nextInt(5) == 0 ? delete(key) : put(key, random.nextInt(33), 1 + random.nextInt(255));
            }
            Rig rig = Rig.with(asking(7, asks));
            Model model = new Model();
            Arrays.fill(model.f, -1);
            for (int boot = 0; boot < 5; boot++) {
                int cut = random.nextInt(3) == 0 ? -1 : random.nextInt(450);
                rig.board.cut(cut);
                model.cut = cut;
                model.lost = false;
                model.boot();
                int booted = rig.board.boot(0, 1000, 0, false, 0);
                Check.due("model boot", booted, model.lost ? GrantBoard.LOST : 1);
                if (!model.lost) {
                    runBoth(rig, model, asks);
                }
                compare(rig, model, random, keys);
                rig.board.off();
            }
        }
    }

    private static void runBoth(Rig rig, Model model, Ask[] asks) {
        int[] errors = new int[asks.length];
        for (int i = 0; i < asks.length && !model.lost; i++) {
            Ask a = asks[i];
            errors[i] = a.command == 3 ? model.delete(7, a.key) : model.put(7, a.key, a.length, a.fill);
        }
        int ran = rig.board.run(2500);
        Check.due("model run", ran, model.lost ? GrantBoard.LOST : 2500);
        if (!model.lost) {
            for (int i = 0; i < asks.length; i += 13) {
                Check.due("model error " + i, rig.word(RAM + 128 + 16 * i + 4), errors[i]);
            }
        }
    }

    private static void compare(Rig rig, Model model, Random random, int keys) {
        Check.due("model writes", rig.board.count(4), model.writes);
        Check.due("model word", rig.word(ONE), model.f[0]);
        Check.due("model word", rig.word(TWO), model.f[512]);
        for (int i = 0; i < 6; i++) {
            int at = random.nextInt(1024);
            Check.due("model word " + at, rig.word(ONE + 4 * at), model.f[at]);
        }
        model.read();
        Map<Long, int[]> values = model.values();
        for (int i = 0; i < 6; i++) {
            int key = random.nextInt(keys);
            int[] r = values.get(7L << 32 | key);
            Check.due("model stored", rig.board.stored(7, key, -1), r == null ? NONE : r[2]);
            if (r != null && r[2] > 0) {
                Check.due("model byte", rig.board.stored(7, key, r[2] - 1), r[3 + (r[2] - 1) / 4] >>> 8 * ((r[2] - 1) % 4) & 255);
            }
        }
    }
}

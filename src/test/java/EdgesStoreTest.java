import java.util.ArrayList;
import java.util.List;

/** Part 8 and promise 24: banks that are good or not, where records end, full banks, no room, power that goes. */
public final class EdgesStoreTest {
    private static final int ONE = 0x1F000, TWO = 0x1F800, MARK = 0x4B560000, SUM = 0x5A5A5A5A;
    private static final int RAM = Talk.RAM, APP = Talk.APP;
    private static final int NONE = GrantBoard.NONE, LOST = GrantBoard.LOST;
    private static final int MIN = 0x80000000, MAX = 0x7FFFFFFF;

    public static void main(String[] args) {
        goodBanks();
        serials();
        recordLengths();
        recordChecks();
        checkOfAllOnes();
        recordsEndAtAllOnes();
        recordsAtTheBanksEnd();
        cleanBanks();
        compactedRecords();
        compactedSerials();
        putJustFits();
        putCompactsBefore();
        noRoom();
        storeNumbers();
        keys();
        valueSizes();
        valuesFetched();
        valuesTakenAway();
        withoutANumber();
        cutAtEachWriteOfAPut();
        nobodyHearsOfALostPut();
        cutAtEachWriteOfACompaction();
        toldBytes();
        toldByWhichBank();
        Check.finish();
    }

    private static Integer[] record(int number, int key, int length, int fill) {
        int n = length == 255 ? 0 : (length + 3) / 4;
        Integer[] words = new Integer[4 + n];
        words[0] = number;
        words[1] = key;
        words[2] = length;
        int sum = number ^ key ^ length ^ SUM;
        for (int i = 0; i < n; i++) {
            int bytes = Math.min(4, length - 4 * i);
            words[3 + i] = bytes == 4 ? fill * 0x01010101 : fill * 0x01010101 & (1 << 8 * bytes) - 1;
            sum ^= words[3 + i];
        }
        words[3 + n] = sum == -1 ? 0 : sum;
        return words;
    }

    private static int[] words(Object... parts) {
        List<Integer> all = new ArrayList<>();
        for (Object part : parts) {
            if (part instanceof Integer[] many) {
                all.addAll(List.of(many));
            } else {
                all.add((Integer) part);
            }
        }
        return all.stream().mapToInt(i -> i).toArray();
    }

    private static Rig banks(int[] one, int[] two) {
        Rig rig = new Rig();
        if (one.length > 0) {
            rig.burnWords(ONE, one);
        }
        if (two.length > 0) {
            rig.burnWords(TWO, two);
        }
        return rig;
    }

    /** Boots it: 1 if bank 0 counts, 2 if bank 1 does, 0 if bank 0 was made anew. */
    private static int counts(int first, int second) {
        Rig rig = banks(words(first, record(1, 1, 1, 10)), words(second, record(1, 1, 1, 20)));
        Check.due("boot", rig.board.boot(0, 1, 0, false, 0), 0);
        int told = rig.board.stored(1, 1, 0);
        Check.due("writes", rig.board.count(4), told == NONE ? 2 : 0);
        return told == NONE ? 0 : told / 10;
    }

    /** GOOD if its first word is 0x4B560000 and a SERIAL 0 .. 65535. */
    private static void goodBanks() {
        for (int bit = 16; bit < 32; bit++) {
            int bad = MARK ^ 1 << bit;
            Check.due("bit " + bit + " of both", counts(bad, bad), 0);
            Check.due("bit " + bit + " of bank 0", counts(bad | 5, MARK), 2);
            Check.due("bit " + bit + " of bank 1", counts(MARK, bad | 1), 1);
        }
        int[] serials = {0, 1, 32767, 32768, 65534, 65535};
        for (int serial : serials) {
            Check.due("just bank 0, serial " + serial, counts(MARK + serial, 0), 1);
            Check.due("just bank 1, serial " + serial, counts(0, MARK + serial), 2);
        }
        Check.due("all ones", counts(-1, -1), 0);
        Check.due("0x4B570000", counts(MARK + 65536, MARK - 1), 0);
        Rig rig = banks(words(0, 0), words(5, 6));
        rig.burnWords(TWO - 4, 7);
        rig.board.boot(0, 1, 0, false, 0);
        Check.due("bank 0 has the serial 0", rig.word(ONE), MARK);
        Check.due("it is erased", rig.word(ONE + 4), -1);
        Check.due("to its end", rig.word(TWO - 4), -1);
        Check.due("bank 1 stays", rig.word(TWO), 5);
    }

    /** Whose serial is 1 .. 32767 more than the other's (modulo 65536), else bank 0. */
    private static void serials() {
        int[] starts = {0, 1, 5, 32767, 32768, 40000, 65535};
        int[] more = {0, 1, 2, 32766, 32767, 32768, 32769, 65534, 65535};
        for (int start : starts) {
            for (int by : more) {
                int other = start + by & 0xFFFF;
                boolean second = by >= 1 && by <= 32767;
                Check.due("serials " + start + " and " + other, counts(MARK + start, MARK + other), second ? 2 : 1);
            }
        }
    }

    private static void ends(String what, boolean counts, Object... behind) {
        Rig rig = banks(words(MARK, record(1, 1, 4, 7), words(behind).length > 0 ? box(words(behind)) : new Integer[0]),
                new int[0]);
        rig.board.boot(0, 1, 0, false, 0);
        Check.due(what + ": it is a record", rig.board.stored(9, 9, -1) != NONE ? 1 : 0, counts ? 1 : 0);
        Check.due(what + ": clean", rig.board.count(4) == 0 ? 1 : 0, counts ? 1 : 0);
        Check.due(what + ": the one before counts", rig.board.stored(1, 1, 3), 7);
    }

    private static Integer[] box(int[] words) {
        Integer[] all = new Integer[words.length];
        for (int i = 0; i < all.length; i++) {
            all[i] = words[i];
        }
        return all;
    }

    /** The length: 0 .. 32; 255: no value. */
    private static void recordLengths() {
        for (int length = 0; length <= 40; length++) {
            ends("length " + length, length <= 32, (Object) record(9, 9, length, 5));
        }
        int[] none = {33, 64, 254, 256, 257, 511, 0x10004, 0x80000004, -1, MIN, MAX, 255 << 8};
        for (int length : none) {
            ends("length " + length, false, 9, 9, length, 9 ^ 9 ^ length ^ SUM);
        }
        Rig rig = banks(words(MARK, record(9, 9, 4, 7), record(9, 9, 255, 0)), new int[0]);
        rig.board.boot(0, 1, 0, false, 0);
        Check.due("255 is a record: clean", rig.board.count(4), 0);
        Check.due("of no value", rig.board.stored(9, 9, -1), NONE);
    }

    private static void recordChecks() {
        for (int bit = 0; bit < 32; bit++) {
            Integer[] r = record(9, 9, 8, 5);
            r[5] ^= 1 << bit;
            ends("bit " + bit + " of the check", false, (Object) r);
            r = record(9, 9, 8, 5);
            r[4] ^= 1 << bit;
            ends("bit " + bit + " of the value", false, (Object) r);
        }
        Integer[] odd = record(9, 9, 3, 5);
        odd[3] |= 0x77000000;
        odd[4] ^= 0x77000000;
        ends("bytes behind the length may be any", true, (Object) odd);
        ends("a check that is not there", false, 9, 9, 0);
        ends("a value that is not there", false, 9, 9, 8, 1);
    }

    /** But 0 in place of 0xFFFFFFFF. */
    private static void checkOfAllOnes() {
        int value = ~(9 ^ 9 ^ 4 ^ SUM);
        ends("0", true, 9, 9, 4, value, 0);
        ends("all ones", false, 9, 9, 4, value, -1);
        int zero = 9 ^ 9 ^ 4 ^ SUM;
        ends("0 that is 0", true, 9, 9, 4, zero, 0);
        ends("all ones for 0", false, 9, 9, 4, zero, -1);
    }

    private static void recordsEndAtAllOnes() {
        ends("all ones where one would begin", false, -1, 9, 0, -1 ^ 9 ^ SUM);
        ends("all ones, then a sound one", false, -1, record(9, 9, 0, 0));
        ends("all ones as the key", true, record(9, -1, 0, 0), record(9, 9, 0, 0));
        ends("all ones as a value", true, record(9, 8, 4, 255), record(9, 9, 0, 0));
        ends("behind one that is not so", false, 9, 9, 33, 0, record(9, 9, 0, 0));
    }

    /** Records of number 1 that take up so many bytes, keys from 100 on. */
    private static List<Integer> filling(int bytes) {
        List<Integer> all = new ArrayList<>();
        int key = 100;
        int left = bytes;
        while (left > 0) {
            int size = left >= 64 ? 48 : left > 48 ? 16 : left;
            all.addAll(List.of(record(1, key, size - 16, key & 255)));
            left -= size;
            key++;
        }
        Check.due("filled", all.size() * 4, bytes);
        return all;
    }

    private static Rig filled(int left, Object... last) {
        Rig rig = new Rig();
        rig.burnWords(ONE, words(MARK, filling(2044 - left).toArray(new Integer[0])));
        int[] end = words(last);
        if (end.length > 0) {
            rig.burnWords(TWO - left, end);
        }
        return rig;
    }

    /** One that goes beyond the bank; fewer than 16 bytes are left. */
    private static void recordsAtTheBanksEnd() {
        for (int left = 16; left <= 48; left += 4) {
            Rig rig = filled(left, (Object) record(9, 9, left - 16, 3));
            rig.board.boot(0, 1, 0, false, 0);
            Check.due("a record up to the end: " + left, rig.board.stored(9, 9, -1), left - 16);
            Check.due("clean", rig.board.count(4), 0);
            if (left < 48) {
                rig = filled(left, (Object) record(9, 9, left - 12, 3));
                rig.board.boot(0, 1, 0, false, 0);
                Check.due("4 bytes beyond: " + left, rig.board.stored(9, 9, -1), NONE);
                Check.due("not clean", rig.word(TWO), MARK + 1);
            }
        }
        for (int left = 4; left <= 12; left += 4) {
            Rig rig = filled(left);
            rig.board.boot(0, 1, 0, false, 0);
            Check.due("left, all 255: clean " + left, rig.board.count(4), 0);
            rig = filled(left, 9);
            rig.board.boot(0, 1, 0, false, 0);
            Check.due("left, not 255: not clean " + left, rig.word(TWO), MARK + 1);
            Check.due("the records are kept", rig.board.stored(1, 100, 0), 100);
        }
        Rig rig = filled(0);
        rig.board.boot(0, 1, 0, false, 0);
        Check.due("none left: clean", rig.board.count(4), 0);
    }

    /** CLEAN if from its end on all bytes of it are 255. */
    private static void cleanBanks() {
        int[] offsets = {24, 25, 26, 27, 28, 1000, 2044, 2045, 2046, 2047};
        for (int offset : offsets) {
            for (int bit = 0; bit < 8; bit += 7) {
                Rig rig = banks(words(MARK, record(1, 1, 4, 7)), new int[0]);
                rig.burn(ONE + offset, new byte[] {(byte) (255 ^ 1 << bit)});
                rig.board.boot(0, 1, 0, false, 0);
                Check.due("byte " + offset + " bit " + bit, rig.word(TWO), MARK + 1);
                Check.due("writes", rig.board.count(4), 1 + 5 + 1);
                Check.due("value", rig.board.stored(1, 1, 0), 7);
            }
        }
        Rig rig = banks(words(MARK, record(1, 1, 4, 7)), new int[0]);
        rig.burn(TWO, new byte[] {1});
        rig.board.boot(0, 1, 0, false, 0);
        Check.due("the other bank's first byte", rig.board.count(4), 0);
        rig = banks(words(MARK), new int[0]);
        rig.board.boot(0, 1, 0, false, 0);
        Check.due("an empty bank is clean", rig.board.count(4), 0);
        rig = banks(words(MARK, -1, 0), new int[0]);
        rig.board.boot(0, 1, 0, false, 0);
        Check.due("empty, but not clean", rig.word(TWO), MARK + 1);
        Check.due("two writes", rig.board.count(4), 2);
    }

    /** Of each store number and key with a value the last record, in the order in which these lie. */
    private static void compactedRecords() {
        Rig rig = banks(words(MARK + 4, record(1, 1, 4, 1), record(2, 1, 4, 2), record(1, 2, 0, 0), record(1, 1, 8, 3),
                record(2, 1, 255, 0), record(1, 3, 255, 0), record(3, 3, 5, 4), record(1, 2, 1, 5), record(2, 1, 32, 6),
                record(3, 3, 255, 0), 77), words(MARK + 3, record(8, 8, 4, 8)));
        rig.board.boot(0, 1, 0, false, 0);
        int[] want = words(MARK + 5, record(1, 1, 8, 3), record(1, 2, 1, 5), record(2, 1, 32, 6), -1, -1);
        for (int i = 0; i < want.length; i++) {
            Check.due("word " + i, rig.word(TWO + 4 * i), want[i]);
        }
        Check.due("writes", rig.board.count(4), 1 + want.length - 3 + 1);
        Check.due("the old bank stays", rig.word(ONE), MARK + 4);
        Check.due("what was in the other is gone", rig.board.stored(8, 8, -1), NONE);
        rig = banks(words(MARK, record(1, 1, 255, 0), 5), new int[0]);
        rig.board.boot(0, 1, 0, false, 0);
        Check.due("nothing has a value: two writes", rig.board.count(4), 2);
        Check.due("and an empty bank", rig.word(TWO + 4), -1);
    }

    private static void compactedSerials() {
        int[] serials = {0, 1, 32767, 32768, 65534, 65535};
        for (int serial : serials) {
            Rig rig = banks(words(MARK + serial, 5), new int[0]);
            rig.board.boot(0, 1, 0, false, 0);
            Check.due("serial behind " + serial, rig.word(TWO), MARK + (serial + 1 & 0xFFFF));
            rig.board.off();
            rig.board.boot(0, 1, 0, false, 0);
            Check.due("bank 1 counts then", rig.board.count(4), 2);
            rig = banks(new int[0], words(MARK + serial, 5));
            rig.board.boot(0, 1, 0, false, 0);
            Check.due("from bank 1", rig.word(ONE), MARK + (serial + 1 & 0xFFFF));
        }
    }

    private static Talk storing(int number) {
        return new Talk(256, App.plain(256).storeNumber(number)).allowRead(5, 0, RAM, 32).allowWrite(5, 0, RAM + 64, 32)
                .subscribe(5, 0);
    }

    private static Rig play(Talk talk, Rig rig) {
        rig.burn(APP, talk.app().bytes());
        rig.board.boot(0, 1000, 0, false, 0);
        return talk.play(rig);
    }

    /** If it does not fit behind the end (as many bytes as it has are left). */
    private static void putJustFits() {
        for (int length = 0; length <= 32; length++) {
            int size = 16 + (length + 3 & -4);
            Talk talk = storing(9).command("put", 5, 2, 9, length, 128).lastUpcall("put " + length, 5, 0, 0, length, 9);
            Rig rig = play(talk, filled(size));
            Check.due("just fits: " + length, rig.board.count(4), size / 4);
            Check.due("the bank's last word is its check", rig.word(TWO - 4), record(9, 9, length, 0)[size / 4 - 1]);
            Check.due("stored", rig.board.stored(9, 9, -1), length);
        }
    }

    private static void putCompactsBefore() {
        for (int length = 0; length <= 32; length += 4) {
            int size = 16 + length;
            Rig rig = new Rig();
            List<Integer> all = new ArrayList<>(List.of(record(1, 99, 0, 0)));
            all.addAll(filling(2044 - 16 - 16 - size + 4));
            all.addAll(List.of(record(1, 99, 255, 0)));
            rig.burnWords(ONE, words(MARK, all.toArray(new Integer[0])));
            Talk talk = storing(9).command("put", 5, 2, 9, length, 128).lastUpcall("put " + length, 5, 0, 0, length, 9);
            play(talk, rig);
            Check.due("4 bytes too few: compacted before", rig.word(TWO), MARK + 1);
            Check.due("stored", rig.board.stored(9, 9, -1), length);
            Check.due("key 99 is not put there", rig.word(TWO + 8), 100);
        }
    }

    /** If it does not fit then, there is no room: 9. */
    private static void noRoom() {
        for (int left = 0; left <= 44; left += 4) {
            int too = left < 16 ? 0 : left - 15;
            Talk talk = storing(9).command("too long", 5, 2, 9, too, 128).lastUpcall("no room", 5, 0, 9, too, 9)
                    .command("none", 5, 1, 9, 0, 128).lastUpcall("none", 5, 0, 10, 0, 9)
                    .then(rig -> Check.due("compacted all the same", rig.word(TWO), MARK + 1));
            if (left >= 16) {
                talk.command("just fits", 5, 2, 9, left - 16, 128).lastUpcall("just fits", 5, 0, 0, left - 16, 9);
            } else {
                talk.command("again", 5, 2, 9, 0, 128).lastUpcall("no room", 5, 0, 9, 0, 9)
                        .then(rig -> Check.due("compacted again", rig.word(ONE), MARK + 2));
            }
            Rig rig = play(talk, filled(left));
            Check.due("the others stay", rig.board.stored(1, 100, -1), 32);
            Check.due("stored", rig.board.stored(9, 9, -1), left >= 16 ? left - 16 : NONE);
        }
        Talk talk = storing(1).command("no room to take away", 5, 3, 100, 0, 128).lastUpcall("9", 5, 0, 9, 0, 100)
                .command("it stays", 5, 1, 100, 0, 128).lastUpcall("32", 5, 0, 0, 32, 100);
        play(talk, filled(12));
        talk = storing(1).command("16 bytes", 5, 3, 100, 0, 128).lastUpcall("taken away", 5, 0, 0, 0, 100)
                .command("none", 5, 1, 100, 0, 128).lastUpcall("10", 5, 0, 10, 0, 100);
        play(talk, filled(16));
        talk = storing(1).command("the same key needs room, too", 5, 2, 100, 0, 128).lastUpcall("9", 5, 0, 9, 0, 100);
        Rig rig = play(talk, filled(12));
        Check.due("as it was", rig.board.stored(1, 100, -1), 32);
    }

    /** A store number 0xFFFFFFFF can put none (no room). */
    private static void storeNumbers() {
        int[] sound = {0, 1, -2, MIN, MAX};
        for (int number : sound) {
            Rig rig = storing(number).command("put", 5, 2, 7, 4, 128).lastUpcall("put", 5, 0, 0, 4, 7)
                    .command("get", 5, 1, 7, 0, 128).lastUpcall("get", 5, 0, 0, 4, 7).go();
            Check.due("stored of " + number, rig.board.stored(number, 7, -1), 4);
            Check.due("its word", rig.word(ONE + 4), number);
        }
        Rig rig = storing(-1).command("put", 5, 2, 7, 4, 128).lastUpcall("no room", 5, 0, 9, 4, 7)
                .command("put", 5, 2, 7, 33, 0, 7).command("get", 5, 1, 7, 0, 128).lastUpcall("none", 5, 0, 10, 0, 7)
                .command("take away", 5, 3, 7, 0, 128).lastUpcall("none", 5, 0, 10, 0, 7).go();
        Check.due("nothing was written", rig.board.count(4), 2);
        Check.due("not stored", rig.board.stored(-1, 7, -1), NONE);
        rig = play(storing(-1).command("put", 5, 2, 7, 4, 128).lastUpcall("no room", 5, 0, 9, 4, 7), filled(0));
        Check.due("nor is a full bank compacted", rig.board.count(4), 0);
    }

    private static void keys() {
        int[] keys = {0, 1, -1, MIN, MAX};
        Talk talk = storing(5);
        for (int i = 0; i < keys.length; i++) {
            talk.command("put", 5, 2, keys[i], i, 128).lastUpcall("put", 5, 0, 0, i, keys[i]);
        }
        for (int i = 0; i < keys.length; i++) {
            talk.command("get", 5, 1, keys[i], 0, 128).lastUpcall("get", 5, 0, 0, i, keys[i]);
        }
        Rig rig = talk.go();
        for (int i = 0; i < keys.length; i++) {
            Check.due("key " + keys[i], rig.board.stored(5, keys[i], -1), i);
        }
        Check.due("another", rig.board.stored(5, 2, -1), NONE);
    }

    /** W bytes (32 at most: else FAIL 7; also if buffer 0 for reading has fewer). */
    private static void valueSizes() {
        int[] sizes = {0, 1, 31, 32, 33, 64};
        int[] asked = {0, 1, 2, 30, 31, 32, 33, 34, 64, 65, -1, MIN, MAX};
        for (int size : sizes) {
            for (int w : asked) {
                boolean so = w >= 0 && w <= 32 && w <= size;
                Talk talk = new Talk(256, App.plain(256).storeNumber(3)).subscribe(5, 0).allowRead(5, 0, RAM, size);
                if (so) {
                    talk.command("put " + w + " of " + size, 5, 2, 7, w, 128).lastUpcall("put", 5, 0, 0, w, 7);
                } else {
                    talk.command("put " + w + " of " + size, 5, 2, 7, w, 0, 7, 7, w).waiting("none", 0);
                }
                Rig rig = talk.go();
                Check.due("stored", rig.board.stored(3, 7, -1), so ? w : NONE);
                Check.due("writes", rig.board.count(4), so ? 2 + 4 + (w + 3) / 4 : 2);
            }
        }
        Rig rig = new Talk(256, App.plain(256).storeNumber(3)).allowRead(5, 0, APP, 32).command("of the app", 5, 2, 7, 32, 128)
                .go();
        Check.due("its bytes", rig.board.stored(3, 7, 0), 2);
        Check.due("no buffer at all: 0 bytes", new Talk(256, App.plain(256).storeNumber(3)).command("put", 5, 2, 7, 0, 128)
                .go().board.stored(3, 7, -1), 0);
    }

    /** It comes into buffer 0 for writing, as far as that goes. */
    private static void valuesFetched() {
        int[] lengths = {0, 1, 4, 31, 32};
        int[] sizes = {0, 1, 3, 4, 31, 32, 33};
        for (int length : lengths) {
            for (int size : sizes) {
                Rig rig = new Rig();
                rig.burnWords(ONE, words(MARK, record(3, 7, length, 0x99)));
                Talk talk = new Talk(256, App.plain(256).storeNumber(3)).subscribe(5, 0).allowWrite(5, 0, RAM + 64, size)
                        .command("get", 5, 1, 7, 5, 128).lastUpcall("its length", 5, 0, 0, length, 7);
                play(talk, rig);
                int n = Math.min(length, size);
                for (int i = 0; i < 34; i++) {
                    Check.due(length + " into " + size + " byte " + i, rig.board.memory(RAM + 64 + i), i < n ? 0x99 : 0);
                }
            }
        }
        Talk talk = storing(3).command("get none", 5, 1, 8, 5, 128).lastUpcall("without one", 5, 0, 10, 0, 8);
        Rig rig = talk.go();
        Check.due("no byte comes", rig.word(RAM + 64), 0);
    }

    private static void valuesTakenAway() {
        Rig rig = storing(3).command("none", 5, 3, 7, 0, 128).lastUpcall("10", 5, 0, 10, 0, 7)
                .then(r -> Check.due("nothing written", r.board.count(4), 2))
                .command("put", 5, 2, 7, 0, 128).command("taken away", 5, 3, 7, 99, 128).lastUpcall("0", 5, 0, 0, 0, 7)
                .command("get", 5, 1, 7, 0, 128).lastUpcall("10", 5, 0, 10, 0, 7)
                .command("again", 5, 3, 7, 0, 128).lastUpcall("10", 5, 0, 10, 0, 7)
                .then(r -> Check.due("two records of 16 bytes", r.board.count(4), 2 + 8)).go();
        Check.due("none", rig.board.stored(3, 7, -1), NONE);
        Check.due("the record of no value", rig.word(ONE + 4 + 16 + 8), 255);
        Check.due("nothing behind", rig.word(ONE + 4 + 32), -1);
    }

    /** Of apps without a store number: it has no command but 0. */
    private static void withoutANumber() {
        Rig rig = new Talk(256).command("0", 5, 0, 0, 0, 128).command("1", 5, 1, 0, 0, 0, 10)
                .command("2", 5, 2, 0, 0, 0, 10).command("3", 5, 3, 0, 0, 0, 10).command("4", 5, 4, 0, 0, 0, 10)
                .then(r -> Check.due("no grant", r.board.process(0, 10), 0))
                .ask("subscribing is free", 1, 5, 0, 0, 0, 130).go();
        Check.due("a grant", rig.board.process(0, 10), 1);
        new Talk(256, App.plain(256).storeNumber(1)).command("4", 5, 4, 0, 0, 0, 10).go();
    }

    private static void cutAtEachWriteOfAPut() {
        for (int length = 0; length <= 32; length += 8) {
            int size = 4 + length / 4;
            for (int n = 0; n <= size; n++) {
                Talk talk = storing(3);
                Rig rig = new Rig();
                rig.burnWords(ONE, words(MARK, record(3, 7, 5, 0x44)));
                App app = talk.command("put", 5, 2, 7, length).app();
                rig.burn(APP, app.bytes());
                rig.board.boot(0, 1000, 0, false, 0);
                rig.board.cut(n);
                Check.due("cut " + n + " of " + size, rig.board.run(200), n < size ? LOST : 200);
                Check.due("words put", rig.board.count(4), n);
                Check.due("stored", rig.board.stored(3, 7, -1), n < size ? 5 : length);
                Check.due("the next word", rig.word(ONE + 4 + 24 + 4 * n), -1);
                rig.board.off();
                Check.due("boot", rig.board.boot(0, 1000, 0, false, 0), 1);
                Check.due("stored then", rig.board.stored(3, 7, -1), n < size ? 5 : length);
                Check.due("compacted if a word lay there", rig.word(TWO), n > 0 && n < size ? MARK + 1 : -1);
            }
        }
    }

    /** Nobody hears of a put at which power went: an upcall for a full row would have been noted as dropped. */
    private static void nobodyHearsOfALostPut() {
        Talk talk = storing(3);
        for (int i = 0; i < 10; i++) {
            talk.command("none", 5, 1, 7, 0, 128);
        }
        talk.waiting("ten", 10).then(rig -> rig.board.cut(2));
        Rig rig = Rig.with(talk.code(c -> c.command(5, 2, 7, 0)).app());
        rig.board.boot(0, 1000, 0, false, 0);
        talk.play(rig);
        Check.due("lost", rig.board.run(20), LOST);
        Check.due("none was dropped", rig.board.count(9), 0);
        rig.event("the call itself is noted", 0, 0, 0, 2);
    }

    /** A full bank with two keys: each put compacts; whenever power goes, each key has its old value or its new one. */
    private static void cutAtEachWriteOfACompaction() {
        int writes = 1 + 12 + 12 + 1 + 12;
        for (int n = 0; n <= writes; n++) {
            List<Integer> all = new ArrayList<>();
            for (int i = 0; i < 42; i++) {
                all.addAll(List.of(record(3, i % 2, 32, i)));
            }
            Rig rig = new Rig();
            rig.burnWords(ONE, words(MARK + 65535, all.toArray(new Integer[0])));
            rig.burn(APP, storing(3).command("put", 5, 2, 1, 32).app().bytes());
            rig.board.boot(0, 1000, 0, false, 0);
            rig.board.cut(n);
            Check.due("cut " + n, rig.board.run(200), n < writes ? LOST : 200);
            Check.due("writes", rig.board.count(4), n);
            Check.due("key 0", rig.board.stored(3, 0, 31), 40);
            Check.due("key 1", rig.board.stored(3, 1, 31), n < writes ? 41 : 0);
            Check.due("the full bank", rig.word(ONE), MARK + 65535);
            Check.due("the other's first word", rig.word(TWO), n < 26 ? -1 : MARK);
            rig.board.off();
            rig.board.cut(-1);
            Check.due("boot", rig.board.boot(0, 1000, 0, false, 0), 1);
            Check.due("key 0 then", rig.board.stored(3, 0, 31), 40);
            Check.due("key 1 then", rig.board.stored(3, 1, 31), n < writes ? 41 : 0);
            Check.due("put at last", rig.board.run(200), 200);
            Check.due("key 1 at last", rig.board.stored(3, 1, 31), 0);
        }
    }

    private static void toldBytes() {
        Rig rig = banks(words(MARK, record(3, 7, 5, 0xEE), record(3, 8, 0, 0), record(3, 9, 32, 1)), new int[0]);
        Check.due("before the first boot", rig.board.stored(3, 7, -1), NONE);
        Check.due("before the first boot", rig.board.stored(3, 7, 0), NONE);
        rig.board.boot(0, 1, 0, false, 0);
        Check.due("length 5", rig.board.stored(3, 7, -1), 5);
        Check.due("byte 0", rig.board.stored(3, 7, 0), 0xEE);
        Check.due("byte 4", rig.board.stored(3, 7, 4), 0xEE);
        int[] none = {5, 6, 31, -2, MIN, MAX};
        for (int i : none) {
            Check.due("byte " + i, rig.board.stored(3, 7, i), NONE);
        }
        Check.due("length 0", rig.board.stored(3, 8, -1), 0);
        Check.due("no byte 0", rig.board.stored(3, 8, 0), NONE);
        Check.due("length 32", rig.board.stored(3, 9, -1), 32);
        Check.due("byte 31", rig.board.stored(3, 9, 31), 1);
        Check.due("byte 32", rig.board.stored(3, 9, 32), NONE);
        Check.due("another number", rig.board.stored(7, 3, -1), NONE);
        Check.due("all ones", rig.board.stored(-1, -1, -1), NONE);
    }

    /** By the bank that counted as the board was on last, as FLASH is now. */
    private static void toldByWhichBank() {
        Rig rig = banks(words(MARK, record(3, 7, 5, 1)), words(MARK + 40000, record(3, 7, 6, 2)));
        rig.board.boot(0, 1, 0, false, 0);
        Check.due("bank 0 counts", rig.board.stored(3, 7, -1), 5);
        rig.board.off();
        Check.due("when off, too", rig.board.stored(3, 7, -1), 5);
        rig.burnWords(TWO, MARK + 1);
        Check.due("still bank 0", rig.board.stored(3, 7, -1), 5);
        rig.burnWords(ONE, words(MARK, record(3, 7, 8, 1)));
        Check.due("as flash is now", rig.board.stored(3, 7, -1), 8);
        Check.due("a boot that is refused", rig.board.boot(3, 1, 0, false, 0), GrantBoard.OUTSIDE);
        Check.due("does not settle it anew", rig.board.stored(3, 7, -1), 8);
        rig.board.boot(0, 1, 0, false, 0);
        Check.due("now bank 1", rig.board.stored(3, 7, -1), 6);
        GrantBoard lost = new GrantBoard();
        lost.cut(0);
        lost.boot(0, 1, 0, false, 0);
        Check.due("after a first boot that was lost", lost.stored(3, 7, -1), NONE);
        rig = banks(words(MARK + 9, record(3, 7, 5, 1), 77), words(MARK + 8, record(3, 7, 6, 2)));
        rig.board.boot(0, 1, 0, false, 0);
        Check.due("compacted: bank 1 counts from then on", rig.word(TWO), MARK + 10);
        rig.board.off();
        rig.burnWords(TWO + 4, -1);
        Check.due("so it is bank 1's that is told", rig.board.stored(3, 7, -1), NONE);
    }
}

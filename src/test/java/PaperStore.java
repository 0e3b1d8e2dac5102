import java.util.ArrayList;
import java.util.LinkedHashMap;
import java.util.List;
import java.util.Map;

/** Part 8 for a PaperBoard: two banks in its cells. Power that goes is an exception. */
final class PaperStore {
    private static final int[] BANKS = {0x1F000, 0x1F800};

    static final class PowerWent extends RuntimeException {
        private static final long serialVersionUID = 1L;
    }

    private final PaperBoard board;
    int powerGoesAt = -1;
    private int bank = -1;

    PaperStore(PaperBoard board) {
        this.board = board;
    }

    /** True if it is to be done; else power goes, once the caller has done what is done all the same. */
    private boolean write() {
        boolean goes = powerGoesAt == 0;
        if (goes) {
            powerGoesAt = -1;
            return false;
        }
        powerGoesAt = Math.max(-1, powerGoesAt - 1);
        board.counts[4]++;
        return true;
    }

    private void put(int address, int v) {
        if (!write()) {
            throw new PowerWent();
        }
        board.poke(address, 4, v);
    }

    private void erase(int b) {
        boolean done = write();
        for (int i = 0; i < (done ? 2048 : 1024); i++) {
            board.poke(BANKS[b] + i, 1, 255);
        }
        if (!done) {
            throw new PowerWent();
        }
    }

    private int word(int b, int at) {
        return board.peek(BANKS[b] + at, 4);
    }

    private boolean good(int b) {
        return board.peek(BANKS[b] + 2, 2) == 0x4B56;
    }

    private static int words(int length) {
        return length == 255 ? 0 : (length + 3) / 4;
    }

    private static int check(List<Integer> words) {
        int x = 0x5A5A5A5A;
        for (int w : words) {
            x ^= w;
        }
        return x == -1 ? 0 : x;
    }

    /** Adds the records of a bank to a list, each with all its words, and tells the end. */
    private int read(int b, List<List<Integer>> records) {
        int at = 4;
        while (2048 - at >= 16) {
            int length = word(b, at + 8);
            boolean known = length >= 0 && length <= 32 || length == 255;
            if (word(b, at) == -1 || !known || at + 16 + 4 * words(length) > 2048) {
                return at;
            }
            List<Integer> record = new ArrayList<>();
            for (int i = 0; i < 3 + words(length); i++) {
                record.add(word(b, at + 4 * i));
            }
            int sum = check(record);
            if (word(b, at + 4 * record.size()) != sum) {
                return at;
            }
            record.add(sum);
            records.add(record);
            at += 4 * record.size();
        }
        return at;
    }

    private Map<List<Integer>, List<Integer>> values(List<List<Integer>> records) {
        Map<List<Integer>, List<Integer>> values = new LinkedHashMap<>();
        for (List<Integer> r : records) {
            List<Integer> key = r.subList(0, 2);
            values.remove(key);
            if (r.get(2) != 255) {
                values.put(key, r);
            }
        }
        return values;
    }

    void boot() {
        boolean one = good(0);
        boolean two = good(1);
        if (!one && !two) {
            bank = 0;
            erase(0);
            put(BANKS[0], 0x4B560000);
            return;
        }
        int ahead = board.peek(BANKS[1], 2) - board.peek(BANKS[0], 2);
        ahead = ahead < 0 ? ahead + 65536 : ahead;
        if (one && two) {
            bank = ahead >= 1 && ahead <= 32767 ? 1 : 0;
        } else {
            bank = one ? 0 : 1;
        }
        for (int at = read(bank, new ArrayList<>()); at < 2048; at++) {
            if (board.peek(BANKS[bank] + at, 1) != 255) {
                compact();
                return;
            }
        }
    }

    private void compact() {
        List<List<Integer>> records = new ArrayList<>();
        read(bank, records);
        int serial = (board.peek(BANKS[bank], 2) + 1) % 65536;
        int other = 1 - bank;
        erase(other);
        int at = BANKS[other] + 4;
        for (List<Integer> r : values(records).values()) {
            for (int w : r) {
                put(at, w);
                at += 4;
            }
        }
        put(BANKS[other], 0x4B560000 + serial);
        bank = other;
    }

    /** False: no room. A null in place of bytes: no value any more. */
    boolean set(int number, int key, byte[] bytes) {
        if (number == -1) {
            return false;
        }
        List<Integer> record = new ArrayList<>(List.of(number, key, bytes == null ? 255 : bytes.length));
        for (int i = 0; bytes != null && i < bytes.length; i += 4) {
            int w = 0;
            for (int j = i; j < i + 4 && j < bytes.length; j++) {
                w |= (bytes[j] & 255) << 8 * (j - i);
            }
            record.add(w);
        }
        record.add(check(record));
        int end = read(bank, new ArrayList<>());
        if (2048 - end < 4 * record.size()) {
            compact();
            end = read(bank, new ArrayList<>());
            if (2048 - end < 4 * record.size()) {
                return false;
            }
        }
        for (int w : record) {
            put(BANKS[bank] + end, w);
            end += 4;
        }
        return true;
    }

    /** Null without a value. */
    byte[] get(int number, int key) {
        if (bank < 0) {
            return null;
        }
        List<List<Integer>> records = new ArrayList<>();
        read(bank, records);
        List<Integer> r = values(records).get(List.of(number, key));
        if (r == null) {
            return null;
        }
        byte[] bytes = new byte[r.get(2)];
        for (int i = 0; i < bytes.length; i++) {
            bytes[i] = (byte) (r.get(3 + i / 4) >>> 8 * (i % 4));
        }
        return bytes;
    }

    int told(int number, int key, int i) {
        byte[] v = get(number, key);
        if (v == null) {
            return PaperBoard.NONE;
        }
        if (i == -1) {
            return v.length;
        }
        return i < 0 || i >= v.length ? PaperBoard.NONE : v[i] & 255;
    }
}

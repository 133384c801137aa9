/** HALF, ENC, DEC and MAC once more, from the document, over longs so that no step wraps unseen. */
final class Words {
    private static final long WORD = 4294967296L;

    private Words() {
    }

    static long unsigned(int word) {
        return word < 0 ? word + WORD : word;
    }

    static int enc(int key, int word) {
        long[] halves = {unsigned(word) / 65536, unsigned(word) % 65536};
        for (int round = 0; round < 4; round++) {
            halves = new long[] {halves[1], halves[0] ^ half(key, round, halves[1])};
        }
        return (int) (halves[0] * 65536 + halves[1]);
    }

    /** DEC told by the rounds backwards: what was right is left now. */
    static int dec(int key, int word) {
        long[] halves = {unsigned(word) / 65536, unsigned(word) % 65536};
        for (int round = 3; round >= 0; round--) {
            halves = new long[] {halves[1] ^ half(key, round, halves[0]), halves[0]};
        }
        return (int) (halves[0] * 65536 + halves[1]);
    }

    static int mac(int key, int word) {
        long h = unsigned(key);
        for (int i = 0; i < 4; i++) {
            h = (h ^ byteOf(word, i)) * 16777619L % WORD;
            h = h ^ h / 8192;
        }
        return (int) h;
    }

    static long blob(int key, int value) {
        return (unsigned(mac(key, value)) % 2147483648L) * WORD + unsigned(enc(key, value));
    }

    private static long half(int key, int round, long x) {
        long t = (x * 40503 + byteOf(key, round) * 257 + round * 4099) % WORD;
        return (t ^ t / 128) % 65536;
    }

    private static long byteOf(int word, int i) {
        long rest = unsigned(word);
        for (int k = 0; k < i; k++) {
            rest = rest / 256;
        }
        return rest % 256;
    }
}

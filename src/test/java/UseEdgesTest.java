/** Promises 14 to 18: a test for each of their sentences that names an edge. */
public final class UseEdgesTest {
    private static final int MIN = Integer.MIN_VALUE;
    private static final int MAX = Integer.MAX_VALUE;
    private static final int[] WORDS = {0, 1, -1, 65535, 65536, -65536, MIN, MAX};
    private static final long BLOB = Words.blob(World.KEY, 9);

    public static void main(String[] args) {
        encryptMay();
        decryptMay();
        signMay();
        usesInEverySession();
        usesTakenAway();
        wrapKnown();
        wrapIsNeverBelowZero();
        wrapTheSame();
        wrapTrustedAndWrap();
        wrapExtractable();
        unwrapTheLowest32Bits();
        unwrapTheUpperBits();
        unwrapUnderAnotherKey();
        unwrapTheAttributesGiven();
        unwrapTakesNothingOfBy();
        unwrapOwnedBySession();
        unwrapMayNot();
        unwrapPrivateAndToken();
        unwrapFull();
        Due.end();
    }

    private static boolean good(int given) {
        return (given & 160) != 160 && (given & 272) != 272;
    }

    private static HandleToken with(int given, int value) {
        HandleToken token = Due.withUser();
        token.create(0, given, value);
        return token;
    }

    private static void encryptMay() {
        Due.sentence("ENC(value, word) is answered. SESSION; HANDLE; ATTRIBUTES when the object may not ENCRYPT.");
        for (int given = 0; given <= 511; given++) {
            if (good(given)) {
                long due = (given & 16) != 0 ? 2110150321L : HandleToken.ATTRIBUTES;
                Due.is("encrypt with " + given, with(given, 305419896).encrypt(0, 1, 7), due);
            }
        }
    }

    private static void decryptMay() {
        Due.sentence("DEC(value, word) is answered. SESSION; HANDLE; ATTRIBUTES when the object may not DECRYPT.");
        for (int given = 0; given <= 511; given++) {
            if (good(given)) {
                long due = (given & 32) != 0 ? 10507597L : HandleToken.ATTRIBUTES;
                Due.is("decrypt with " + given, with(given, 305419896).decrypt(0, 1, 7), due);
            }
        }
    }

    private static void signMay() {
        Due.sentence("MAC(value, word) is answered. SESSION; HANDLE; ATTRIBUTES when the object may not SIGN.");
        int value = (int) 3656189786L;
        for (int given = 0; given <= 511; given++) {
            if (good(given)) {
                long due = (given & 64) != 0 ? 3370278840L : HandleToken.ATTRIBUTES;
                Due.is("sign with " + given, with(given, value).sign(0, 1, 100), due);
            }
        }
    }

    private static void usesInEverySession() {
        Due.sentence("An object is VISIBLE (in every session)");
        HandleToken token = World.user();
        for (int s = 0; s < 2; s++) {
            Due.is("encrypt in " + s, token.encrypt(s, World.ABLE, 3), Words.unsigned(Words.enc(606, 3)));
            Due.is("decrypt in " + s, token.decrypt(s, World.ABLE, 3), Words.unsigned(Words.dec(606, 3)));
            Due.is("sign in " + s, token.sign(s, World.ABLE, 3), Words.unsigned(Words.mac(606, 3)));
            Due.is("wrap in " + s, token.wrap(s, World.WRAPS, World.ABLE), Words.blob(World.KEY, 606));
            Due.is("a PRIVATE one signs in " + s, token.sign(s, World.HIDDEN_ABLE, 3),
                Words.unsigned(Words.mac(World.KEY, 3)));
            Due.is("and is wrapped in " + s, token.wrap(s, World.WRAPS, World.HIDDEN_ABLE),
                Words.blob(World.KEY, World.KEY));
        }
        Due.is("unwrap by a PRIVATE one", token.unwrap(World.READS, World.HIDDEN_ABLE, BLOB, 0), 8);
        token.logout(0);
        Due.is("hidden again", token.unwrap(World.READS, World.HIDDEN_ABLE, BLOB, 0), HandleToken.HANDLE);
    }

    private static void usesTakenAway() {
        Due.sentence("the USES 16 ENCRYPT, 32 DECRYPT, 64 SIGN, 128 WRAP, 256 UNWRAP");
        HandleToken token = World.nobody();
        token.limit(0, World.ABLE, Due.ENCRYPT);
        Due.is("no ENCRYPT", token.encrypt(0, World.ABLE, 3), HandleToken.ATTRIBUTES);
        Due.is("DECRYPT still", token.decrypt(0, World.ABLE, 3), Words.unsigned(Words.dec(606, 3)));
        token.limit(0, World.ABLE, Due.DECRYPT);
        Due.is("no DECRYPT", token.decrypt(0, World.ABLE, 3), HandleToken.ATTRIBUTES);
        Due.is("SIGN still", token.sign(0, World.ABLE, 3), Words.unsigned(Words.mac(606, 3)));
        token.limit(0, World.ABLE, Due.SIGN);
        Due.is("no SIGN", token.sign(0, World.ABLE, 3), HandleToken.ATTRIBUTES);
        Due.is("WRAP still", token.wrap(0, World.WRAPS, World.ABLE), Words.blob(World.KEY, 606));
        token.limit(0, World.WRAPS, Due.WRAP);
        Due.is("no WRAP", token.wrap(0, World.WRAPS, World.ABLE), HandleToken.ATTRIBUTES);
        Due.is("UNWRAP still", token.unwrap(0, World.UNWRAPS, BLOB, 0), 8);
        token.limit(0, World.UNWRAPS, Due.UNWRAP);
        Due.is("no UNWRAP", token.unwrap(0, World.UNWRAPS, BLOB, 0), HandleToken.ATTRIBUTES);
    }

    private static void wrapKnown() {
        Due.sentence("the BLOB, 2^32 * (the lowest 31 bits of MAC(k, v)) + ENC(k, v) taken as 0 .. 2^32 - 1.");
        int[] values = {0, 1, 2, 3, 4, 5, 6, 7, 77};
        long[] blobs = {9073997798449865519L, 448230618790204680L, 6545728097484446817L, 4814801722529438117L,
            2280235907507671805L, 3186986435576779901L, 3454197335837171029L, 8630167586616321993L,
            729201728479830848L};
        for (int i = 0; i < values.length; i++) {
            HandleToken token = World.nobody();
            int h = token.create(0, Due.EXTRACTABLE, values[i]);
            Due.is("wrap " + values[i], token.wrap(0, World.WRAPS, h), blobs[i]);
            Due.is("unwrap " + values[i], token.unwrap(0, World.UNWRAPS, blobs[i], 0), h + 1);
            Due.is("the value", token.read(0, h + 1), values[i]);
        }
    }

    private static void wrapIsNeverBelowZero() {
        Due.sentence("the BLOB, 2^32 * (the lowest 31 bits of MAC(k, v)) + ENC(k, v) taken as 0 .. 2^32 - 1.");
        for (int key : WORDS) {
            HandleToken token = Due.withOfficer();
            token.create(0, Due.TOKEN | Due.WRAP | Due.UNWRAP, key);
            token.trust(0, 1);
            for (int value : WORDS) {
                int h = token.create(0, Due.EXTRACTABLE | Due.SENSITIVE, value);
                long blob = token.wrap(0, 1, h);
                Due.is("wrap " + value + " under " + key, blob, Words.blob(key, value));
                Due.holds("not below 0", blob >= 0);
                int made = token.unwrap(0, 1, blob, 0);
                Due.is("unwrap " + value + " under " + key, token.read(0, made), Words.unsigned(value));
                token.destroy(0, h);
                token.destroy(0, made);
            }
        }
    }

    private static void wrapTheSame() {
        Due.sentence("HANDLE (of either; they may be the same)");
        HandleToken token = World.nobody();
        Due.is("by itself", token.wrap(0, World.WRAPS, World.WRAPS), Words.blob(World.KEY, World.KEY));
        token.limit(0, World.WRAPS, Due.EXTRACTABLE);
        Due.is("not EXTRACTABLE", token.wrap(0, World.WRAPS, World.WRAPS), HandleToken.ATTRIBUTES);
        Due.is("another still", token.wrap(0, World.WRAPS, World.ABLE), Words.blob(World.KEY, 606));
    }

    private static void wrapTrustedAndWrap() {
        Due.sentence("ATTRIBUTES when by may not WRAP or is not TRUSTED, or h is not EXTRACTABLE.");
        HandleToken token = Due.withOfficer();
        token.create(0, Due.TOKEN | Due.WRAP, World.KEY);
        token.create(0, Due.EXTRACTABLE, 5);
        Due.is("WRAP, not TRUSTED", token.wrap(0, 1, 2), HandleToken.ATTRIBUTES);
        token.trust(0, 1);
        Due.is("WRAP and TRUSTED", token.wrap(0, 1, 2), 3186986435576779901L);
        token.logout(0);
        Due.is("the officer is not asked for", token.wrap(0, 1, 2), 3186986435576779901L);
        token.limit(0, 1, Due.WRAP);
        Due.is("TRUSTED, no WRAP", token.wrap(0, 1, 2), HandleToken.ATTRIBUTES);
        Due.is("neither", token.wrap(0, 2, 2), HandleToken.ATTRIBUTES);
    }

    private static void wrapExtractable() {
        Due.sentence("or h is not EXTRACTABLE.");
        for (int given = 0; given <= 511; given++) {
            if (good(given)) {
                HandleToken token = World.user();
                int h = token.create(0, given, 5);
                long due = (given & 8) != 0 ? 3186986435576779901L : HandleToken.ATTRIBUTES;
                Due.is("wrap one with " + given, token.wrap(0, World.WRAPS, h), due);
            }
        }
    }

    private static void unwrapTheLowest32Bits() {
        Due.sentence("with v = DEC(k, the lowest 32 bits of blob) an object is made as by create");
        for (int key : WORDS) {
            for (int value : WORDS) {
                HandleToken token = with(Due.UNWRAP, key);
                Due.is("unwrap", token.unwrap(0, 1, Words.blob(key, value), 0), 2);
                Due.is(value + " under " + key, token.read(0, 2), Words.unsigned(value));
            }
        }
    }

    private static void unwrapTheUpperBits() {
        Due.sentence("BLOB when blob >>> 32 is not the lowest 31 bits of MAC(k, v).");
        int[] values = {0, 1, 3, 5, 77, -1};
        for (int value : values) {
            long blob = Words.blob(World.KEY, value);
            HandleToken token = with(Due.UNWRAP, World.KEY);
            for (int bit = 0; bit < 64; bit++) {
                Due.is("bit " + bit + " of " + value, token.unwrap(0, 1, blob ^ 1L << bit, 0), HandleToken.BLOB);
            }
            Due.is("the top bit alone", token.unwrap(0, 1, blob | MIN * 4294967296L, 0), HandleToken.BLOB);
            Due.is("one more", token.unwrap(0, 1, blob + 4294967296L, 0), HandleToken.BLOB);
            Due.is("one less", token.unwrap(0, 1, blob - 4294967296L, 0), HandleToken.BLOB);
            Due.is("nothing above", token.unwrap(0, 1, blob & 4294967295L, 0), HandleToken.BLOB);
            Due.is("as it was", token.unwrap(0, 1, blob, 0), 2);
            Due.is("and once more", token.unwrap(0, 1, blob, 0), 3);
        }
        long[] others = {0L, -1L, Long.MIN_VALUE, Long.MAX_VALUE, -7L, 4294967295L, 4294967296L};
        for (long other : others) {
            HandleToken token = with(Due.UNWRAP, World.KEY);
            Due.is("blob " + other, token.unwrap(0, 1, other, 0), HandleToken.BLOB);
            Due.is("nothing was made", token.status(5), 1);
        }
    }

    private static void unwrapUnderAnotherKey() {
        Due.sentence("Unwraps a blob under the value k of the object by");
        HandleToken token = with(Due.UNWRAP, World.KEY + 1);
        Due.is("another value", token.unwrap(0, 1, BLOB, 0), HandleToken.BLOB);
        Due.is("blob 0 under the key 0", with(Due.UNWRAP, 0).unwrap(0, 1, Words.blob(0, 0), 0), 2);
        Due.is("the same value in another key", with(Due.UNWRAP, World.KEY).unwrap(0, 1, BLOB, 0), 2);
    }

    private static void unwrapTheAttributesGiven() {
        Due.sentence("with the attributes given (no others) and the value v: its handle.");
        HandleToken token = World.user();
        int h = token.generate(0, Due.EXTRACTABLE | Due.SENSITIVE | Due.SIGN);
        long blob = token.wrap(0, World.WRAPS, h);
        int[] given = {0, 463 - 128};
        for (int bits : given) {
            int made = token.unwrap(0, World.UNWRAPS, blob, bits);
            Due.is("unwrapped with " + bits, token.attributes(0, made), bits);
        }
        Due.is("the wrapped one is as it was", token.attributes(0, h), 8 + 4 + 64 + 1024 + 2048);
        Due.is("by is as it was", token.attributes(0, World.UNWRAPS), 1 + 256);
        Due.is("one that was SENSITIVE is read now", token.read(0, h + 1), Words.unsigned(Words.mac(1, 1234567)));
    }

    private static void unwrapTakesNothingOfBy() {
        Due.sentence("with the attributes given (no others) and the value v: its handle.");
        for (int kind = Due.UNWRAP; kind <= 511; kind++) {
            if (good(kind)) {
                HandleToken token = with(kind, World.KEY);
                token.unwrap(0, 1, BLOB, 0);
                Due.is("none, by " + kind, token.attributes(0, 2), 0);
                token.unwrap(0, 1, BLOB, Due.SENSITIVE | Due.SIGN);
                Due.is("two, by " + kind, token.attributes(0, 3), Due.SENSITIVE | Due.SIGN);
                Due.is("by " + kind + " is as it was", token.attributes(0, 1), kind);
            }
        }
        HandleToken token = Due.withUser();
        int by = token.generate(0, Due.TOKEN | Due.PRIVATE | Due.SENSITIVE | Due.UNWRAP);
        int value = Words.mac(0, 1234567);
        token.unwrap(0, by, Words.blob(value, 9), 0);
        Due.is("by a generated one", token.attributes(0, 2), 0);
    }

    private static void unwrapOwnedBySession() {
        Due.sentence("an object is made as by create");
        HandleToken token = World.nobody();
        token.create(World.WRITES, Due.UNWRAP, World.KEY);
        Due.is("by another session's key", token.unwrap(World.READS, 8, BLOB, 0), 9);
        token.close(World.WRITES);
        Due.is("it stays with its session", token.read(World.READS, 9), 9);
        Due.is("its key does not", token.attributes(World.READS, 8), HandleToken.HANDLE);
        token.open(true);
        token.close(World.READS);
        Due.is("and goes with it", token.attributes(World.WRITES, 9), HandleToken.HANDLE);
        Due.is("a TOKEN object", token.unwrap(World.WRITES, World.UNWRAPS, BLOB, Due.TOKEN), 10);
        token.close(World.WRITES);
        token.open(false);
        Due.is("stays", token.read(0, 10), 9);
    }

    private static void unwrapMayNot() {
        Due.sentence("ATTRIBUTES when they are not good or have WRAP, or by may not UNWRAP");
        for (int given = -1; given <= 512; given++) {
            HandleToken token = with(Due.UNWRAP, World.KEY);
            boolean may = given >= 0 && given <= 511 && good(given) && (given & 128) == 0;
            Due.is("given " + given, token.unwrap(0, 1, BLOB, given), may ? 2 : HandleToken.ATTRIBUTES);
        }
        for (int kind = 0; kind <= 511; kind++) {
            if (good(kind)) {
                HandleToken token = with(kind, World.KEY);
                boolean may = (kind & 256) != 0;
                Due.is("by " + kind, token.unwrap(0, 1, BLOB, 0), may ? 2 : HandleToken.ATTRIBUTES);
            }
        }
    }

    private static void unwrapPrivateAndToken() {
        Due.sentence("LOGIN and READ_ONLY as in create");
        int by = World.UNWRAPS;
        Due.is("PRIVATE, nobody", World.nobody().unwrap(0, by, BLOB, 2), HandleToken.LOGIN);
        Due.is("PRIVATE, the officer", World.officer().unwrap(0, by, BLOB, 2), HandleToken.LOGIN);
        Due.is("PRIVATE, the user", World.user().unwrap(0, by, BLOB, 2), 8);
        Due.is("TOKEN, read-only", World.user().unwrap(World.READS, by, BLOB, 1), HandleToken.READ_ONLY);
        Due.is("TOKEN, read-write", World.nobody().unwrap(World.WRITES, by, BLOB, 1), 8);
        Due.is("PRIVATE, read-only", World.user().unwrap(World.READS, by, BLOB, 2), 8);
        Due.is("neither, the officer", World.officer().unwrap(0, by, BLOB, 0), 8);
    }

    private static void unwrapFull() {
        Due.sentence("FULL: there is no room. BLOB: what is to be unwrapped is not well.");
        HandleToken token = World.nobody();
        for (int h = 8; h <= 10; h++) {
            Due.is("unwrap " + h, token.unwrap(0, World.UNWRAPS, BLOB, 0), h);
        }
        Due.is("an eleventh", token.unwrap(0, World.UNWRAPS, BLOB, 0), HandleToken.FULL);
        Due.is("an eleventh that is not well", token.unwrap(0, World.UNWRAPS, BLOB + 1, 0), HandleToken.FULL);
        token.destroy(0, 8);
        Due.is("not well", token.unwrap(0, World.UNWRAPS, BLOB + 1, 0), HandleToken.BLOB);
        Due.is("room again", token.unwrap(0, World.UNWRAPS, BLOB, 0), 11);
    }
}

/** The section 'Terms', which all promises rest on: a test for each of its sentences that names an edge. */
public final class TermsTest {
    private static final int MIN = Integer.MIN_VALUE;
    private static final int MAX = Integer.MAX_VALUE;
    private static final long BLOB = Words.blob(World.KEY, 9);

    // Key, word, ENC, DEC, MAC: worked out apart from this project's code.
    private static final long[][] KNOWN = {
        {0, 0, 3286777903L, 1152178347L, 0L},
        {0, -1, 2477650172L, 1440093868L, 2524438878L},
        {0, 65535, 2703022563L, 173582304L, 2340677690L},
        {0, 65536, 259304608L, 2057160132L, 638460433L},
        {0, MIN, 3050208430L, 3049569869L, 2147797382L},
        {0, MAX, 2149786501L, 731475252L, 376584912L},
        {-1, 0, 826518549L, 1737996544L, 464975958L},
        {-1, -1, 1180789199L, 2274677662L, 2312796446L},
        {-1, 65535, 1783848916L, 646250403L, 1267537753L},
        {-1, 65536, 1446959125L, 3523014136L, 465811301L},
        {MIN, 0, 3286810796L, 747590970L, 284270438L},
        {MIN, -1, 2477618045L, 3883595281L, 2441313402L},
        {MIN, MIN, 3050241327L, 511957654L, 2432001505L},
        {MAX, 0, 826486422L, 2049349727L, 1151480769L},
        {MAX, -1, 1180767822L, 581933655L, 2684254771L},
        {MAX, MAX, 1239642198L, 3443414498L, 536429482L},
        {305419896, 65535, 1115979839L, 3735015702L, 3622996834L},
        {305419896, MIN, 2119143356L, 1730635436L, 4252535255L}
    };

    public static void main(String[] args) {
        knownWords();
        everyHalf();
        everyByteOfAKey();
        everyByteOfAWord();
        decIsTheWordWhoseEncIs();
        answered();
        sessionsAreThree();
        loginIsForTheWholeToken();
        handlesInOrder();
        handlesAreNotUsedAgain();
        handlesOfAWholeLife();
        tokenObjectsStay();
        onlyGeneratedOnesAreLocal();
        tenAtATime();
        roomAgain();
        visible();
        good();
        privateAndTokenGoByTheBits();
        sessionOfEveryCall();
        Due.end();
    }

    private static HandleToken withKey(int value) {
        HandleToken token = Due.opened();
        token.create(0, Due.ENCRYPT | Due.DECRYPT | Due.SIGN, value);
        return token;
    }

    private static void knownWords() {
        Due.sentence("All words are ints; sums, products and shifts are those of int.");
        for (long[] one : KNOWN) {
            HandleToken token = withKey((int) one[0]);
            String what = " of " + one[1] + " under " + one[0];
            Due.is("ENC" + what, token.encrypt(0, 1, (int) one[1]), one[2]);
            Due.is("DEC" + what, token.decrypt(0, 1, (int) one[1]), one[3]);
            Due.is("MAC" + what, token.sign(0, 1, (int) one[1]), one[4]);
        }
    }

    private static void everyHalf() {
        Due.sentence("HALF(k, r, x), for a key word k, a round r (0 .. 3) and x (0 .. 65535)");
        int key = -559038737;
        HandleToken token = withKey(key);
        for (int x = 0; x <= 65535; x++) {
            if (x % 256 == 0) {
                token = withKey(key);
            }
            Due.is("ENC of " + x, token.encrypt(0, 1, x), Words.unsigned(Words.enc(key, x)));
        }
    }

    private static void everyByteOfAKey() {
        Due.sentence("with t = x * 40503 + ((k >>> 8 * r) & 255) * 257 + r * 4099 it is (t ^ (t >>> 7)) & 65535");
        for (int at = 0; at < 32; at += 8) {
            for (int one = 0; one <= 255; one++) {
                int key = one << at;
                Due.is("ENC under " + key, withKey(key).encrypt(0, 1, -7), Words.unsigned(Words.enc(key, -7)));
                Due.is("DEC under " + key, withKey(key).decrypt(0, 1, -7), Words.unsigned(Words.dec(key, -7)));
            }
        }
    }

    private static void everyByteOfAWord() {
        Due.sentence("h becomes (h ^ ((w >>> 8 * i) & 255)) * 16777619, then h becomes h ^ (h >>> 13)");
        for (int at = 0; at < 32; at += 8) {
            HandleToken token = withKey(MIN);
            for (int one = 0; one <= 255; one++) {
                int word = one << at;
                Due.is("MAC of " + word, token.sign(0, 1, word), Words.unsigned(Words.mac(MIN, word)));
            }
        }
    }

    private static void decIsTheWordWhoseEncIs() {
        Due.sentence("DEC(k, w) is the word whose ENC under k is w.");
        int[] words = {0, 1, -1, 65535, 65536, -65536, MIN, MAX, 32768, -32769};
        for (int key : words) {
            HandleToken token = withKey(key);
            for (int word : words) {
                int decrypted = (int) token.decrypt(0, 1, word);
                int encrypted = (int) token.encrypt(0, 1, word);
                Due.is("ENC of DEC of " + word, token.encrypt(0, 1, decrypted), Words.unsigned(word));
                Due.is("DEC of ENC of " + word, token.decrypt(0, 1, encrypted), Words.unsigned(word));
            }
        }
    }

    private static void answered() {
        Due.sentence("A word is ANSWERED as the long 0 .. 2^32 - 1 with the same 32 bits.");
        int[] words = {0, MAX, MIN, -1, -5};
        long[] due = {0L, 2147483647L, 2147483648L, 4294967295L, 4294967291L};
        for (int i = 0; i < words.length; i++) {
            HandleToken token = withKey(words[i]);
            Due.is("read " + words[i], token.read(0, 1), due[i]);
            HandleToken other = withKey(77);
            Due.is("decrypt to " + words[i], other.decrypt(0, 1, Words.enc(77, words[i])), due[i]);
            Due.is("encrypt to " + words[i], other.encrypt(0, 1, Words.dec(77, words[i])), due[i]);
        }
        Due.is("sign to the least", withKey(0).sign(0, 1, 0), 0);
    }

    private static void sessionsAreThree() {
        Due.sentence("SESSIONS 0, 1, 2 are open or not; an open one is READ-ONLY or READ-WRITE.");
        for (int modes = 0; modes < 8; modes++) {
            HandleToken token = new HandleToken(1, 2);
            for (int s = 0; s < 3; s++) {
                Due.is("not open " + s, token.find(s, 0), HandleToken.SESSION);
                token.open((modes & 1 << s) != 0);
                Due.is("open " + s, token.find(s, 0), 0);
            }
            for (int s = 0; s < 3; s++) {
                boolean writes = (modes & 1 << s) != 0;
                int h = token.create(s, Due.TOKEN, 1);
                Due.holds("session " + s + " of " + modes, writes ? h > 0 : h == HandleToken.READ_ONLY);
            }
            Due.is("modes " + modes, token.status(1), 7 + 8 * modes);
            Due.is("session 3", token.find(3, 0), HandleToken.SESSION);
            Due.is("session -1", token.find(-1, 0), HandleToken.SESSION);
        }
    }

    private static void loginIsForTheWholeToken() {
        Due.sentence("NOBODY is logged in at first, later perhaps the USER or the OFFICER"
            + " (for the whole token, not for a session).");
        HandleToken token = Due.opened();
        Due.is("at first", token.status(0), 0);
        token.open(true);
        token.login(0, false, Due.USER_PIN);
        Due.is("in the other session", token.create(1, Due.PRIVATE, 1), 1);
        Due.is("in one opened later", token.create(token.open(false), Due.PRIVATE, 1), 2);
        token.close(0);
        Due.is("the session of the login is closed", token.create(1, Due.PRIVATE, 1), 3);
        Due.is("logout in another", token.logout(1), 0);
        Due.is("for all of them", token.create(2, Due.PRIVATE, 1), HandleToken.LOGIN);
    }

    private static void handlesInOrder() {
        Due.sentence("a HANDLE (the numbers 1, 2, 3, .. in the order in which objects were made; none is used again)");
        HandleToken token = World.user();
        Due.is("create", token.create(0, 0, 1), World.COUNT + 1);
        Due.is("generate in another session", token.generate(1, 0), World.COUNT + 2);
        Due.is("refused", token.create(0, 512, 1), HandleToken.ATTRIBUTES);
        Due.is("unwrap", token.unwrap(0, World.UNWRAPS, BLOB, 0), World.COUNT + 3);
        Due.is("refused, FULL", token.generate(0, 0), HandleToken.FULL);
        token.destroy(0, 1);
        Due.is("the refused have none", token.create(0, 0, 1), World.COUNT + 4);
    }

    private static void handlesAreNotUsedAgain() {
        Due.sentence("a HANDLE (the numbers 1, 2, 3, .. in the order in which objects were made; none is used again)");
        HandleToken token = Due.withUser();
        token.create(0, 0, 1);
        token.destroy(0, 1);
        Due.is("the newest destroyed, none left", token.create(0, Due.PRIVATE, 2), 2);
        token.logout(0);
        Due.is("destroyed by logout", token.create(0, 0, 3), 3);
        token.close(0);
        token.open(true);
        Due.is("destroyed by close", token.create(0, 0, 4), 4);
        for (int h = 1; h <= 3; h++) {
            Due.is("gone " + h, token.attributes(0, h), HandleToken.HANDLE);
        }
    }

    private static void handlesOfAWholeLife() {
        Due.sentence("An object is used for at most 512 calls after it has been made");
        HandleToken token = Due.opened();
        for (int h = 1; h <= 255; h++) {
            Due.is("made", h % 2 == 0 ? token.create(0, 0, h) : token.generate(0, 0), h);
            Due.is("destroyed " + h, token.destroy(0, h), 0);
        }
        Due.is("the 512th call", token.status(5), 255);
        HandleToken other = Due.opened();
        for (int h = 1; h <= 500; h++) {
            Due.is("create " + h, other.create(0, 0, h), h <= 10 ? h : HandleToken.FULL);
        }
        Due.is("the first of ten", other.read(0, 1), 1);
        Due.is("the last of ten", other.read(0, 10), 10);
    }

    private static void tokenObjectsStay() {
        Due.sentence("1 TOKEN (it stays when sessions close; the others are SESSION objects)");
        HandleToken token = World.user();
        for (int s = 0; s < 2; s++) {
            token.close(s);
        }
        Due.is("those of the token", token.status(4), 4);
        token.open(false);
        token.login(0, false, Due.USER_PIN);
        for (int h = 1; h <= World.COUNT; h++) {
            boolean stays = h <= World.HIDDEN_ABLE;
            Due.holds("key " + h, stays == token.attributes(0, h) > 0);
        }
    }

    private static void onlyGeneratedOnesAreLocal() {
        Due.sentence("1024 LOCAL (it was generated on the token); 2048 ALWAYS (it was generated on the token and"
            + " SENSITIVE from the beginning), 4096 NEVER (it was generated on the token and EXTRACTABLE at no time)");
        int[] given = {0, Due.SENSITIVE, Due.EXTRACTABLE, Due.SENSITIVE | Due.EXTRACTABLE};
        int[] more = {Due.LOCAL | Due.NEVER, Due.LOCAL | Due.ALWAYS | Due.NEVER, Due.LOCAL, Due.LOCAL | Due.ALWAYS};
        for (int i = 0; i < given.length; i++) {
            HandleToken token = World.nobody();
            Due.is("created with " + given[i], token.attributes(0, token.create(0, given[i], 1)), given[i]);
            int unwrapped = token.unwrap(0, World.UNWRAPS, BLOB, given[i]);
            Due.is("unwrapped with " + given[i], token.attributes(0, unwrapped), given[i]);
            Due.is("generated with " + given[i], token.attributes(0, token.generate(0, given[i])), given[i] | more[i]);
        }
    }

    private static void tenAtATime() {
        Due.sentence("At most ten objects exist at a time.");
        int[] kinds = {0, Due.TOKEN, Due.PRIVATE, Due.TOKEN | Due.PRIVATE};
        for (int kind : kinds) {
            HandleToken token = Due.withUser();
            Due.fill(token, 0, kind, 9);
            Due.is("the tenth", token.create(0, kind, 1), 10);
            Due.is("exist", token.status(4), 10);
            for (int other : kinds) {
                Due.is("create an eleventh", token.create(0, other, 1), HandleToken.FULL);
                Due.is("generate an eleventh", token.generate(0, other), HandleToken.FULL);
            }
            Due.is("still", token.status(4), 10);
            Due.is("made in all", token.status(5), 10);
        }
        HandleToken token = World.full(World.nobody());
        Due.is("unwrap an eleventh", token.unwrap(0, World.UNWRAPS, BLOB, 0), HandleToken.FULL);
        token.destroy(0, World.PLAIN);
        Due.is("unwrap a tenth", token.unwrap(0, World.UNWRAPS, BLOB, 0), 11);
        Due.is("ten again", token.unwrap(0, World.UNWRAPS, BLOB, 0), HandleToken.FULL);
    }

    private static void roomAgain() {
        Due.sentence("At most ten objects exist at a time.");
        HandleToken token = Due.withUser();
        token.open(true);
        Due.fill(token, 0, Due.PRIVATE, 5);
        Due.fill(token, 1, 0, 5);
        token.destroy(0, 5);
        Due.is("one destroyed, one made", token.generate(0, Due.PRIVATE), 11);
        Due.is("and no other", token.generate(0, 0), HandleToken.FULL);
        token.logout(0);
        Due.is("exist after logout", token.status(4), 5);
        Due.fill(token, 0, 0, 5);
        Due.is("full after five", token.create(0, 0, 1), HandleToken.FULL);
        token.close(1);
        Due.is("exist after close", token.status(4), 5);
        Due.fill(token, 0, 0, 5);
        Due.is("full after five more", token.create(0, 0, 1), HandleToken.FULL);
        Due.is("the last of them", token.find(0, 9), 21);
    }

    private static void visible() {
        Due.sentence("An object is VISIBLE (in every session) when it is not PRIVATE or the user"
            + " (not the officer) is logged in.");
        HandleToken[] tokens = {World.nobody(), World.user(), World.officer()};
        for (int who = 0; who < tokens.length; who++) {
            for (int s = 0; s < 2; s++) {
                for (int h = 1; h <= World.COUNT; h++) {
                    boolean hidden = h == World.HIDDEN || h == World.HIDDEN_ABLE;
                    boolean seen = tokens[who].attributes(s, h) != HandleToken.HANDLE;
                    Due.holds("key " + h + " in " + s + " of " + who, seen == (!hidden || who == 1));
                }
                Due.is("as many are found by " + who, tokens[who].find(s, 5), who == 1 ? 6 : 0);
            }
        }
    }

    private static void good() {
        Due.sentence("GIVEN attributes (of create, generate, unwrap) are GOOD when they are 0 .. 511,"
            + " do not have both WRAP and DECRYPT, and do not have both UNWRAP and ENCRYPT.");
        int[] good = {0, 32, 128, 16, 256, 16 + 32, 128 + 256, 16 + 128, 32 + 256, 463, 511 - 16 - 128, 511 - 32 - 256};
        for (int given : good) {
            HandleToken token = World.user();
            Due.is("create " + given, token.create(0, given, 1), 8);
            Due.is("generate " + given, token.generate(0, given), 9);
            boolean wraps = (given & Due.WRAP) != 0;
            Due.is("unwrap " + given, token.unwrap(0, World.UNWRAPS, BLOB, given), wraps ? HandleToken.ATTRIBUTES : 10);
        }
        int[] bad = {-1, MIN, 512, MAX, 511, 160, 272, 432, 511 - 16, 511 - 32, 511 - 128, 511 - 256, 512 + 463};
        for (int given : bad) {
            HandleToken token = World.user();
            Due.is("create " + given, token.create(0, given, 1), HandleToken.ATTRIBUTES);
            Due.is("generate " + given, token.generate(0, given), HandleToken.ATTRIBUTES);
            Due.is("unwrap " + given, token.unwrap(0, World.UNWRAPS, BLOB, given), HandleToken.ATTRIBUTES);
        }
    }

    private static void privateAndTokenGoByTheBits() {
        Due.sentence("(Whether an object that would be made is PRIVATE or a TOKEN object goes by the bits 2 and 1"
            + " of the attributes given, good or not.)");
        int[] bad = {512, MIN, MAX - 3, -4, 160, 272, 1 << 20};
        for (int given : bad) {
            HandleToken token = World.nobody();
            for (int low = 0; low <= 3; low++) {
                int due = low >= 2 ? HandleToken.LOGIN : low == 1 ? HandleToken.READ_ONLY : HandleToken.ATTRIBUTES;
                int bits = given + low;
                Due.is("create " + bits, token.create(World.READS, bits, 1), due);
                Due.is("generate " + bits, token.generate(World.READS, bits), due);
                Due.is("unwrap " + bits, token.unwrap(World.READS, World.UNWRAPS, BLOB, bits), due);
            }
        }
    }

    private static void sessionOfEveryCall() {
        Due.sentence("SESSION: s is not an open session.");
        HandleToken token = World.user();
        token.close(World.READS);
        everyCallIn(token, World.READS);
        token.close(World.WRITES);
        for (int s = -1; s <= 3; s++) {
            everyCallIn(token, s);
        }
        Due.is("the keys of the token", token.status(4), World.HIDDEN_ABLE);
    }

    private static void everyCallIn(HandleToken token, int s) {
        long[] answers = {
            token.close(s), token.login(s, false, Due.USER_PIN), token.login(s, true, 5), token.logout(s),
            token.unlock(s, 5), token.create(s, 0, 5), token.create(s, -1, 5), token.generate(s, 0),
            token.generate(s, 3), token.destroy(s, 1), token.attributes(s, 1), token.limit(s, 1, 4),
            token.limit(s, 1, 0), token.trust(s, 1), token.read(s, 1), token.encrypt(s, 1, 5),
            token.decrypt(s, 1, 5), token.sign(s, 1, 5), token.wrap(s, 1, 1), token.wrap(s, 99, 99),
            token.unwrap(s, World.UNWRAPS, BLOB, 0), token.unwrap(s, 99, 0, 512), token.find(s, 0), token.find(s, -1)
        };
        for (int i = 0; i < answers.length; i++) {
            Due.is("call " + i + " in " + s, answers[i], HandleToken.SESSION);
        }
    }
}

/**
 * A token that keeps keys: sessions, two roles that log in, keys that are reached by handles,
 * and what can be done with a key.
 */
public final class HandleToken {
    public static final int SESSION = -1;
    public static final int HANDLE = -2;
    public static final int LOGIN = -3;
    public static final int READ_ONLY = -4;
    public static final int ATTRIBUTES = -5;
    public static final int FULL = -6;
    public static final int BLOB = -7;
    public static final int LOCKED = -8;
    public static final int PIN = -9;

    private static final int MOST_SESSIONS = 3;
    private static final int MOST_FAILURES = 3;
    private static final int MOST_KEYS = 10;

    private static final int NOBODY = 0;
    private static final int USER = 1;
    private static final int OFFICER = 2;

    private static final int BIT_TOKEN = 1;
    private static final int BIT_PRIVATE = 2;
    private static final int BIT_SENSITIVE = 4;
    private static final int BIT_EXTRACTABLE = 8;
    private static final int BIT_ENCRYPT = 16;
    private static final int BIT_DECRYPT = 32;
    private static final int BIT_SIGN = 64;
    private static final int BIT_WRAP = 128;
    private static final int BIT_UNWRAP = 256;
    private static final int BIT_TRUSTED = 512;
    private static final int BIT_LOCAL = 1024;
    private static final int BIT_ALWAYS = 2048;
    private static final int BIT_NEVER = 4096;

    private static final int ALL_USES = BIT_ENCRYPT | BIT_DECRYPT | BIT_SIGN | BIT_WRAP | BIT_UNWRAP;
    private static final int GIVEN_MOST = 511;
    private static final int LIMIT_TAKES = BIT_EXTRACTABLE | ALL_USES;
    private static final int LIMIT_ALL = BIT_SENSITIVE | LIMIT_TAKES;

    private static final int GENERATED_WORD = 1234567;
    private static final int TAG_MASK = 0x7FFFFFFF;
    private static final long WORD_MASK = 0xFFFFFFFFL;

    private final Role userRole;
    private final Role officerRole;
    private final KeyTable keys;
    private int loggedIn;
    private int generatedCount;

    // Bit s stands for session s. A session that is not open has neither bit.
    private int openSessions;
    private int readWriteSessions;

    public HandleToken(int userPin, int officerPin) {
        userRole = new Role(userPin);
        officerRole = new Role(officerPin);
        keys = new KeyTable();
        loggedIn = NOBODY;
    }

    public int open(boolean readWrite) {
        if (!readWrite && loggedIn == OFFICER) {
            return LOGIN;
        }
        for (int s = 0; s < MOST_SESSIONS; s++) {
            if (!isOpen(s)) {
                openSessions |= 1 << s;
                if (readWrite) {
                    readWriteSessions |= 1 << s;
                }
                return s;
            }
        }
        return FULL;
    }

    public int close(int s) {
        if (!isOpen(s)) {
            return SESSION;
        }
        openSessions &= ~(1 << s);
        readWriteSessions &= ~(1 << s);
        keys.removeOwnedBy(s);
        if (openSessions == 0) {
            loggedIn = NOBODY;
        }
        return 0;
    }

    public int login(int s, boolean officer, int pin) {
        if (!isOpen(s)) {
            return SESSION;
        }
        if (loggedIn != NOBODY) {
            return LOGIN;
        }
        if (officer && openSessions != readWriteSessions) {
            return READ_ONLY;
        }
        Role role = officer ? officerRole : userRole;
        int refusal = role.tryPin(pin);
        if (refusal == 0) {
            loggedIn = officer ? OFFICER : USER;
        }
        return refusal;
    }

    public int logout(int s) {
        if (!isOpen(s)) {
            return SESSION;
        }
        if (loggedIn == NOBODY) {
            return LOGIN;
        }
        loggedIn = NOBODY;
        keys.removePrivateSessionKeys();
        return 0;
    }

    public int unlock(int s, int pin) {
        if (!isOpen(s)) {
            return SESSION;
        }
        if (loggedIn != OFFICER) {
            return LOGIN;
        }
        userRole.renew(pin);
        return 0;
    }

    public int create(int s, int attributes, int value) {
        int refusal = refusalToMake(s, attributes, true);
        if (refusal != 0) {
            return refusal;
        }
        return keys.add(attributes, value, s);
    }

    public int generate(int s, int attributes) {
        int refusal = refusalToMake(s, attributes, true);
        if (refusal != 0) {
            return refusal;
        }
        int value = Words.mac(generatedCount, GENERATED_WORD);
        generatedCount++;
        return keys.add(attributes | originOf(attributes), value, s);
    }

    public int destroy(int s, int h) {
        int row = rowOrRefusal(s, h);
        if (row < 0) {
            return row;
        }
        if (isFixedFor(s, row)) {
            return READ_ONLY;
        }
        keys.removeRow(row);
        return 0;
    }

    public int attributes(int s, int h) {
        int row = rowOrRefusal(s, h);
        return row < 0 ? row : keys.attributesOf[row];
    }

    public int limit(int s, int h, int mask) {
        int row = rowOrRefusal(s, h);
        if (row < 0) {
            return row;
        }
        if (isFixedFor(s, row)) {
            return READ_ONLY;
        }
        if (mask == 0 || (mask & ~LIMIT_ALL) != 0) {
            return ATTRIBUTES;
        }
        int left = keys.attributesOf[row] & ~(mask & LIMIT_TAKES);
        keys.attributesOf[row] = left | (mask & BIT_SENSITIVE);
        return keys.attributesOf[row];
    }

    public int trust(int s, int h) {
        int row = rowOrRefusal(s, h);
        if (row < 0) {
            return row;
        }
        if (loggedIn != OFFICER) {
            return LOGIN;
        }
        // Kept as the document names it, though no read-only session is open beside the officer.
        if (isFixedFor(s, row)) {
            return READ_ONLY;
        }
        if (!keys.has(row, BIT_TOKEN) || !keys.has(row, BIT_WRAP)) {
            return ATTRIBUTES;
        }
        keys.attributesOf[row] |= BIT_TRUSTED;
        return 0;
    }

    public long read(int s, int h) {
        int row = rowOrRefusal(s, h);
        if (row < 0) {
            return row;
        }
        if (keys.has(row, BIT_SENSITIVE)) {
            return ATTRIBUTES;
        }
        return answered(keys.valueOf[row]);
    }

    public long encrypt(int s, int h, int word) {
        int row = rowForUse(s, h, BIT_ENCRYPT);
        return row < 0 ? row : answered(Words.enc(keys.valueOf[row], word));
    }

    public long decrypt(int s, int h, int word) {
        int row = rowForUse(s, h, BIT_DECRYPT);
        return row < 0 ? row : answered(Words.dec(keys.valueOf[row], word));
    }

    public long sign(int s, int h, int word) {
        int row = rowForUse(s, h, BIT_SIGN);
        return row < 0 ? row : answered(Words.mac(keys.valueOf[row], word));
    }

    public long wrap(int s, int by, int h) {
        int byRow = rowOrRefusal(s, by);
        if (byRow < 0) {
            return byRow;
        }
        int row = rowOrRefusal(s, h);
        if (row < 0) {
            return row;
        }
        boolean mayWrap = keys.has(byRow, BIT_WRAP) && keys.has(byRow, BIT_TRUSTED);
        if (!mayWrap || !keys.has(row, BIT_EXTRACTABLE)) {
            return ATTRIBUTES;
        }
        int key = keys.valueOf[byRow];
        int value = keys.valueOf[row];
        return (tagOf(key, value) << 32) + answered(Words.enc(key, value));
    }

    public int unwrap(int s, int by, long blob, int attributes) {
        int byRow = rowOrRefusal(s, by);
        if (byRow < 0) {
            return byRow;
        }
        boolean allowed = keys.has(byRow, BIT_UNWRAP) && (attributes & BIT_WRAP) == 0;
        int refusal = refusalToMake(s, attributes, allowed);
        if (refusal != 0) {
            return refusal;
        }
        int key = keys.valueOf[byRow];
        int value = Words.dec(key, (int) blob);
        if (blob >>> 32 != tagOf(key, value)) {
            return BLOB;
        }
        return keys.add(attributes, value, s);
    }

    public int find(int s, int k) {
        if (!isOpen(s)) {
            return SESSION;
        }
        int before = 0;
        for (int row = 0; row < keys.size; row++) {
            if (isVisible(row)) {
                if (before == k) {
                    return keys.handleOf[row];
                }
                before++;
            }
        }
        return 0;
    }

    public int status(int what) {
        switch (what) {
            case 0:
                return loggedIn;
            case 1:
                return openSessions + 8 * readWriteSessions;
            case 2:
                return userRole.failures;
            case 3:
                return officerRole.failures;
            case 4:
                return keys.size;
            case 5:
                return keys.made;
            default:
                return -1;
        }
    }

    private boolean isOpen(int s) {
        return s >= 0 && s < MOST_SESSIONS && (openSessions & 1 << s) != 0;
    }

    private boolean isReadWrite(int s) {
        return isOpen(s) && (readWriteSessions & 1 << s) != 0;
    }

    private boolean isVisible(int row) {
        return loggedIn == USER || !keys.has(row, BIT_PRIVATE);
    }

    /** Session s is read-only and the key is a TOKEN object, which it may not change. */
    private boolean isFixedFor(int s, int row) {
        return keys.has(row, BIT_TOKEN) && !isReadWrite(s);
    }

    /** The row of the key with handle h, or SESSION or HANDLE: the two that every call on a key has first. */
    private int rowOrRefusal(int s, int h) {
        if (!isOpen(s)) {
            return SESSION;
        }
        int row = keys.rowWith(h);
        return row >= 0 && isVisible(row) ? row : HANDLE;
    }

    private int rowForUse(int s, int h, int use) {
        int row = rowOrRefusal(s, h);
        return row >= 0 && !keys.has(row, use) ? ATTRIBUTES : row;
    }

    /** The first refusal to make a key, or 0; allowed is what the call itself asks beside good attributes. */
    private int refusalToMake(int s, int given, boolean allowed) {
        if (!isOpen(s)) {
            return SESSION;
        }
        if ((given & BIT_PRIVATE) != 0 && loggedIn != USER) {
            return LOGIN;
        }
        if ((given & BIT_TOKEN) != 0 && !isReadWrite(s)) {
            return READ_ONLY;
        }
        if (!allowed || !areGood(given)) {
            return ATTRIBUTES;
        }
        return keys.size >= MOST_KEYS ? FULL : 0;
    }

    private static boolean areGood(int given) {
        return given >= 0 && given <= GIVEN_MOST
            && !hasBoth(given, BIT_WRAP, BIT_DECRYPT)
            && !hasBoth(given, BIT_UNWRAP, BIT_ENCRYPT);
    }

    private static boolean hasBoth(int given, int one, int other) {
        return (given & one) != 0 && (given & other) != 0;
    }

    /** What a generated key has beside the attributes given. */
    private static int originOf(int given) {
        int always = (given & BIT_SENSITIVE) != 0 ? BIT_ALWAYS : 0;
        int never = (given & BIT_EXTRACTABLE) == 0 ? BIT_NEVER : 0;
        return BIT_LOCAL | always | never;
    }

    private static long answered(int word) {
        return word & WORD_MASK;
    }

    /** The upper half of a blob: 31 bits, so that a blob is never below 0 as a refusal is. */
    private static long tagOf(int key, int value) {
        return Words.mac(key, value) & TAG_MASK;
    }

    /** One of the two that log in. */
    private static final class Role {
        private int pin;
        private int failures;

        private Role(int firstPin) {
            pin = firstPin;
        }

        private int tryPin(int given) {
            if (failures >= MOST_FAILURES) {
                return LOCKED;
            }
            if (given != pin) {
                failures++;
                return PIN;
            }
            failures = 0;
            return 0;
        }

        private void renew(int newPin) {
            pin = newPin;
            failures = 0;
        }
    }

    /** The keys that exist, a row each, by ascending handles without gaps between the rows. */
    private static final class KeyTable {
        private static final int NO_OWNER = -1;

        private final int[] handleOf = new int[MOST_KEYS];
        private final int[] attributesOf = new int[MOST_KEYS];
        private final int[] valueOf = new int[MOST_KEYS];
        private final int[] ownerOf = new int[MOST_KEYS];
        private int size;
        private int made;

        private boolean has(int row, int bit) {
            return row >= 0 && row < size && (attributesOf[row] & bit) != 0;
        }

        private int rowWith(int handle) {
            for (int row = 0; row < size; row++) {
                if (handleOf[row] == handle) {
                    return row;
                }
            }
            return -1;
        }

        private int add(int attributes, int value, int session) {
            if (size >= MOST_KEYS) {
                return FULL;
            }
            made++;
            handleOf[size] = made;
            attributesOf[size] = attributes;
            valueOf[size] = value;
            ownerOf[size] = (attributes & BIT_TOKEN) != 0 ? NO_OWNER : session;
            size++;
            return made;
        }

        private void removeRow(int gone) {
            for (int row = gone; row < size - 1; row++) {
                handleOf[row] = handleOf[row + 1];
                attributesOf[row] = attributesOf[row + 1];
                valueOf[row] = valueOf[row + 1];
                ownerOf[row] = ownerOf[row + 1];
            }
            size--;
        }

        // The two below go downwards: a removal moves only rows that were looked at before.
        private void removeOwnedBy(int session) {
            for (int row = size - 1; row >= 0; row--) {
                if (ownerOf[row] == session) {
                    removeRow(row);
                }
            }
        }

        private void removePrivateSessionKeys() {
            for (int row = size - 1; row >= 0; row--) {
                if (has(row, BIT_PRIVATE) && !has(row, BIT_TOKEN)) {
                    removeRow(row);
                }
            }
        }
    }

    /** ENC, DEC and MAC of the document, over words. */
    private static final class Words {
        private static final int ROUNDS = 4;
        private static final int HALF_MASK = 65535;

        private static int half(int key, int round, int x) {
            int t = x * 40503 + byteOf(key, round) * 257 + round * 4099;
            return (t ^ (t >>> 7)) & HALF_MASK;
        }

        private static int enc(int key, int word) {
            int left = word >>> 16;
            int right = word & HALF_MASK;
            for (int round = 0; round < ROUNDS; round++) {
                int next = left ^ half(key, round, right);
                left = right;
                right = next;
            }
            return left * 65536 + right;
        }

        private static int dec(int key, int word) {
            int left = word >>> 16;
            int right = word & HALF_MASK;
            for (int round = ROUNDS - 1; round >= 0; round--) {
                int before = right ^ half(key, round, left);
                right = left;
                left = before;
            }
            return left * 65536 + right;
        }

        private static int mac(int key, int word) {
            int hash = key;
            for (int i = 0; i < ROUNDS; i++) {
                hash = (hash ^ byteOf(word, i)) * 16777619;
                hash ^= hash >>> 13;
            }
            return hash;
        }

        private static int byteOf(int word, int i) {
            return (word >>> 8 * i) & 255;
        }
    }
}

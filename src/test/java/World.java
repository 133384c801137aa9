/**
 * Tokens with the same seven keys, in the states in which calls are refused. Session 0 is
 * read-write, session 2 is not open; session 1 is read-only, but read-write beside the officer.
 */
final class World {
    static final int KEY = 123456;
    static final int WRITES = 0;
    static final int READS = 1;
    static final int CLOSED = 2;
    static final int[] NO_SESSIONS = {CLOSED, 3, -1, 32, 33, -32, Integer.MAX_VALUE, Integer.MIN_VALUE};

    static final int WRAPS = 1;
    static final int UNWRAPS = 2;
    static final int HIDDEN = 3;
    static final int HIDDEN_ABLE = 4;
    static final int PLAIN = 5;
    static final int ABLE = 6;
    static final int SECRET = 7;
    static final int COUNT = 7;
    static final int[] NO_HANDLES = {0, -1, 11, 99, Integer.MAX_VALUE, Integer.MIN_VALUE};

    private World() {
    }

    static HandleToken nobody() {
        HandleToken token = withKeys();
        token.open(false);
        return token;
    }

    static HandleToken user() {
        HandleToken token = nobody();
        token.login(WRITES, false, Due.USER_PIN);
        return token;
    }

    static HandleToken officer() {
        HandleToken token = withKeys();
        token.open(true);
        token.login(WRITES, true, Due.OFFICER_PIN);
        return token;
    }

    /** Ten keys exist then; the last three are session objects of session 0. */
    static HandleToken full(HandleToken token) {
        Due.fill(token, WRITES, 0, 10 - COUNT);
        return token;
    }

    static HandleToken failed(HandleToken token, boolean officer, int times) {
        int wrong = (officer ? Due.OFFICER_PIN : Due.USER_PIN) + 1;
        for (int i = 0; i < times; i++) {
            token.login(WRITES, officer, wrong);
        }
        return token;
    }

    static HandleToken withoutReads(HandleToken token) {
        token.close(READS);
        return token;
    }

    private static HandleToken withKeys() {
        HandleToken token = Due.withOfficer();
        token.create(WRITES, Due.TOKEN | Due.EXTRACTABLE | Due.WRAP, KEY);
        token.create(WRITES, Due.TOKEN | Due.UNWRAP, KEY);
        token.trust(WRITES, WRAPS);
        token.logout(WRITES);
        token.login(WRITES, false, Due.USER_PIN);
        token.create(WRITES, Due.TOKEN | Due.PRIVATE | Due.SENSITIVE, 303);
        token.create(WRITES, Due.TOKEN | Due.PRIVATE | Due.EXTRACTABLE | Due.DECRYPT | Due.SIGN | Due.UNWRAP, KEY);
        token.logout(WRITES);
        token.create(WRITES, 0, 505);
        token.create(WRITES, Due.EXTRACTABLE | Due.ENCRYPT | Due.DECRYPT | Due.SIGN, 606);
        token.generate(WRITES, Due.SENSITIVE);
        return token;
    }
}

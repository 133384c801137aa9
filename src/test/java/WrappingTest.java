/** Promises 17 (wrap) and 18 (unwrap). */
public final class WrappingTest {
    private static final int KEY = 123456;

    public static void main(String[] args) {
        promise17KnownAnswers();
        promise17Wraps();
        promise17WhatItAsks();
        promise17Refusals();
        promise18Unwraps();
        promise18GivesNoOtherAttributes();
        promise18BadBlobs();
        promise18Attributes();
        promise18Order();
        Due.end();
    }

    /** Handle 1 wraps and is TRUSTED, handle 2 unwraps, both with KEY; nobody is logged in. */
    private static HandleToken wrapper() {
        HandleToken token = Due.withOfficer();
        token.create(0, Due.TOKEN | Due.WRAP, KEY);
        token.create(0, Due.TOKEN | Due.UNWRAP, KEY);
        token.trust(0, 1);
        token.logout(0);
        return token;
    }

    private static void promise17KnownAnswers() {
        HandleToken token = wrapper();
        token.create(0, 24, Integer.MIN_VALUE);
        token.create(0, 40, Integer.MAX_VALUE);
        Due.is("least int", token.wrap(0, 1, 3), 9072614024503713821L);
        Due.is("greatest int", token.wrap(0, 1, 4), 7622132709120969977L);
    }

    private static void promise17Wraps() {
        int[] values = {0, 1, -1, 77, 65536, Integer.MIN_VALUE, -559038737};
        HandleToken token = wrapper();
        for (int value : values) {
            int h = token.create(0, Due.EXTRACTABLE | Due.SENSITIVE, value);
            Due.is("wrap " + value, token.wrap(0, 1, h), Words.blob(KEY, value));
        }
        token.open(false);
        Due.is("in a read-only one", token.wrap(1, 1, 3), Words.blob(KEY, 0));
    }

    private static void promise17WhatItAsks() {
        HandleToken token = Due.withOfficer();
        token.create(0, Due.TOKEN | Due.WRAP | Due.EXTRACTABLE, KEY);
        token.create(0, Due.TOKEN | Due.UNWRAP | Due.EXTRACTABLE, KEY);
        token.create(0, Due.WRAP, KEY);
        Due.is("not TRUSTED", token.wrap(0, 1, 2), HandleToken.ATTRIBUTES);
        token.trust(0, 1);
        Due.is("TRUSTED", token.wrap(0, 1, 2), Words.blob(KEY, KEY));
        Due.is("by itself", token.wrap(0, 1, 1), Words.blob(KEY, KEY));
        Due.is("may not WRAP", token.wrap(0, 2, 1), HandleToken.ATTRIBUTES);
        Due.is("not EXTRACTABLE", token.wrap(0, 1, 3), HandleToken.ATTRIBUTES);
        token.limit(0, 2, Due.EXTRACTABLE);
        Due.is("not EXTRACTABLE any more", token.wrap(0, 1, 2), HandleToken.ATTRIBUTES);
        token.limit(0, 1, Due.WRAP);
        Due.is("TRUSTED, but no WRAP any more", token.wrap(0, 1, 1), HandleToken.ATTRIBUTES);
    }

    private static void promise17Refusals() {
        HandleToken token = wrapper();
        token.login(0, false, Due.USER_PIN);
        token.create(0, Due.TOKEN | Due.PRIVATE | Due.EXTRACTABLE, 5);
        Due.is("the user wraps", token.wrap(0, 1, 3), Words.blob(KEY, 5));
        token.logout(0);
        Due.is("hidden", token.wrap(0, 1, 3), HandleToken.HANDLE);
        Due.is("hidden by", token.wrap(0, 3, 1), HandleToken.HANDLE);
        Due.is("no such by", token.wrap(0, 9, 1), HandleToken.HANDLE);
        Due.is("HANDLE of h before ATTRIBUTES of by", token.wrap(0, 2, 9), HandleToken.HANDLE);
        Due.is("SESSION first", token.wrap(1, 9, 9), HandleToken.SESSION);
    }

    private static void promise18Unwraps() {
        int[] values = {0, 1, -1, 77, Integer.MIN_VALUE, Integer.MAX_VALUE, -559038737};
        HandleToken token = wrapper();
        for (int i = 0; i < values.length; i++) {
            int h = token.unwrap(0, 2, Words.blob(KEY, values[i]), Due.SIGN);
            Due.is("unwrap " + values[i], h, i + 3);
            Due.is("its value", token.read(0, h), Words.unsigned(values[i]));
            Due.is("its attributes", token.attributes(0, h), Due.SIGN);
        }
        token.open(false);
        Due.is("in a read-only one", token.unwrap(1, 2, Words.blob(KEY, 4), 0), 10);
        token.close(1);
        Due.is("owned by its session", token.status(4), 9);
        Due.is("a TOKEN object", token.unwrap(0, 2, Words.blob(KEY, 4), Due.TOKEN), 11);
        token.close(0);
        Due.is("it stays", token.status(4), 3);
    }

    private static void promise18GivesNoOtherAttributes() {
        HandleToken token = wrapper();
        token.generate(0, Due.EXTRACTABLE | Due.SENSITIVE | Due.SIGN);
        int h = token.unwrap(0, 2, token.wrap(0, 1, 3), Due.EXTRACTABLE);
        Due.is("only those given", token.attributes(0, h), Due.EXTRACTABLE);
        Due.is("the value", token.read(0, h), Words.unsigned(Words.mac(0, 1234567)));
        token.generate(0, 0);
        Due.is("unwrapping is no generating", token.read(0, 5), Words.unsigned(Words.mac(1, 1234567)));
    }

    private static void promise18BadBlobs() {
        HandleToken token = wrapper();
        long blob = Words.blob(KEY, 77);
        for (int bit = 0; bit < 64; bit++) {
            Due.is("bit " + bit + " turned", token.unwrap(0, 2, blob ^ 1L << bit, 0), HandleToken.BLOB);
        }
        long[] others = {0, -1, 5, Long.MIN_VALUE, Long.MAX_VALUE, HandleToken.ATTRIBUTES};
        for (long other : others) {
            Due.is("unwrap " + other, token.unwrap(0, 2, other, 0), HandleToken.BLOB);
        }
        token.create(0, Due.UNWRAP, KEY + 1);
        Due.is("another key", token.unwrap(0, 3, blob, 0), HandleToken.BLOB);
        Due.is("nothing was made", token.status(5), 3);
        Due.is("the right one", token.unwrap(0, 2, blob, 0), 4);
    }

    private static void promise18Attributes() {
        for (int given = -3; given <= 520; given++) {
            HandleToken token = wrapper();
            token.login(0, false, Due.USER_PIN);
            boolean good = given >= 0 && given <= 511 && (given & Due.WRAP) == 0 && (given & 272) != 272;
            int due = good ? 3 : HandleToken.ATTRIBUTES;
            Due.is("unwrap with " + given, token.unwrap(0, 2, Words.blob(KEY, 1), given), due);
        }
        HandleToken token = wrapper();
        Due.is("by may not UNWRAP", token.unwrap(0, 1, Words.blob(KEY, 1), 0), HandleToken.ATTRIBUTES);
    }

    private static void promise18Order() {
        HandleToken token = wrapper();
        token.open(false);
        Due.is("SESSION first", token.unwrap(2, 9, 0, -1), HandleToken.SESSION);
        Due.is("HANDLE before LOGIN", token.unwrap(1, 9, 0, -1), HandleToken.HANDLE);
        Due.is("LOGIN before READ_ONLY", token.unwrap(1, 1, 0, -1), HandleToken.LOGIN);
        Due.is("READ_ONLY before ATTRIBUTES", token.unwrap(1, 1, 0, 129), HandleToken.READ_ONLY);
        Due.is("ATTRIBUTES before BLOB", token.unwrap(1, 2, 0, 128), HandleToken.ATTRIBUTES);
        Due.fill(token, 0, 0, 8);
        Due.is("ATTRIBUTES before FULL", token.unwrap(0, 1, 0, 0), HandleToken.ATTRIBUTES);
        Due.is("FULL before BLOB", token.unwrap(0, 2, 0, 0), HandleToken.FULL);
        Due.is("FULL", token.unwrap(0, 2, Words.blob(KEY, 1), 0), HandleToken.FULL);
        token.close(1);
        token.destroy(0, 3);
        token.login(0, true, Due.OFFICER_PIN);
        Due.is("the officer, PRIVATE", token.unwrap(0, 2, Words.blob(KEY, 1), 2), HandleToken.LOGIN);
        token.logout(0);
        token.login(0, false, Due.USER_PIN);
        Due.is("the user, PRIVATE", token.unwrap(0, 2, Words.blob(KEY, 1), 2), 11);
    }
}

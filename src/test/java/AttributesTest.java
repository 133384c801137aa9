/** Promises 10 (attributes), 11 (limit), 12 (trust) and 13 (read). */
public final class AttributesTest {
    public static void main(String[] args) {
        promise10Attributes();
        promise11Limits();
        promise11EveryMask();
        promise11LeavesTheOthers();
        promise11Refusals();
        promise12Trusts();
        promise12Refusals();
        promise13Reads();
        promise13Refusals();
        Due.end();
    }

    private static void promise10Attributes() {
        HandleToken token = Due.withUser();
        token.create(0, 3, 1);
        token.create(0, 76, 1);
        token.open(false);
        Due.is("in any session", token.attributes(1, 2), 76);
        Due.is("private", token.attributes(1, 1), 3);
        Due.is("SESSION first", token.attributes(2, 9), HandleToken.SESSION);
        Due.is("no object", token.attributes(0, 3), HandleToken.HANDLE);
        Due.is("handle 0", token.attributes(0, 0), HandleToken.HANDLE);
        token.logout(0);
        Due.is("hidden", token.attributes(0, 1), HandleToken.HANDLE);
        token.close(1);
        token.login(0, true, Due.OFFICER_PIN);
        Due.is("hidden from the officer", token.attributes(0, 1), HandleToken.HANDLE);
        Due.is("the officer sees the others", token.attributes(0, 2), 76);
    }

    private static void promise11Limits() {
        HandleToken token = Due.opened();
        token.create(0, Due.EXTRACTABLE | Due.ENCRYPT | Due.DECRYPT, 5);
        Due.is("a use", token.limit(0, 1, Due.DECRYPT), Due.EXTRACTABLE | Due.ENCRYPT);
        Due.is("what it has not", token.limit(0, 1, Due.SIGN), Due.EXTRACTABLE | Due.ENCRYPT);
        Due.is("EXTRACTABLE", token.limit(0, 1, Due.EXTRACTABLE), Due.ENCRYPT);
        Due.is("SENSITIVE", token.limit(0, 1, Due.SENSITIVE), Due.ENCRYPT | Due.SENSITIVE);
        Due.is("SENSITIVE stays", token.limit(0, 1, Due.ENCRYPT), Due.SENSITIVE);
        Due.is("kept", token.attributes(0, 1), Due.SENSITIVE);
        Due.is("no longer read", token.read(0, 1), HandleToken.ATTRIBUTES);
    }

    private static void promise11EveryMask() {
        for (int mask = -5; mask <= 8200; mask++) {
            HandleToken token = Due.opened();
            token.generate(0, 8 | 16 | 32 | 64);
            boolean right = mask > 0 && mask <= 511 && (mask & 3) == 0;
            int kept = (Due.LOCAL | 8 | 16 | 32 | 64) & ~mask | mask & 4;
            Due.is("limit by " + mask, token.limit(0, 1, mask), right ? kept : HandleToken.ATTRIBUTES);
            Due.is("kept after " + mask, token.attributes(0, 1), right ? kept : Due.LOCAL + 120);
        }
    }

    private static void promise11LeavesTheOthers() {
        HandleToken token = Due.withOfficer();
        token.generate(0, Due.TOKEN | Due.WRAP | Due.UNWRAP | Due.SIGN | Due.SENSITIVE);
        token.trust(0, 1);
        int stay = Due.TOKEN | Due.SENSITIVE | Due.TRUSTED | Due.LOCAL | Due.ALWAYS | Due.NEVER;
        Due.is("all that a mask may have", token.limit(0, 1, 508), stay);
        token.generate(0, Due.EXTRACTABLE);
        Due.is("neither ALWAYS nor NEVER comes", token.limit(0, 2, 12), Due.SENSITIVE | Due.LOCAL);
    }

    private static void promise11Refusals() {
        HandleToken token = Due.withUser();
        token.create(0, Due.TOKEN | Due.SIGN, 1);
        token.create(0, Due.TOKEN | Due.PRIVATE | Due.SIGN, 2);
        token.create(0, Due.SIGN, 3);
        token.open(false);
        Due.is("SESSION first", token.limit(2, 9, 0), HandleToken.SESSION);
        Due.is("HANDLE before ATTRIBUTES", token.limit(0, 9, 0), HandleToken.HANDLE);
        Due.is("READ_ONLY", token.limit(1, 1, Due.SIGN), HandleToken.READ_ONLY);
        Due.is("READ_ONLY before ATTRIBUTES", token.limit(1, 1, 0), HandleToken.READ_ONLY);
        Due.is("a session object in a read-only one", token.limit(1, 3, Due.SIGN), 0);
        Due.is("bad mask there", token.limit(1, 3, 512), HandleToken.ATTRIBUTES);
        token.logout(0);
        Due.is("hidden", token.limit(1, 2, Due.SIGN), HandleToken.HANDLE);
        token.login(0, false, Due.USER_PIN);
        Due.is("nothing changed", token.attributes(0, 1), Due.TOKEN | Due.SIGN);
        Due.is("nor here", token.attributes(0, 2), Due.TOKEN | Due.PRIVATE | Due.SIGN);
    }

    private static void promise12Trusts() {
        HandleToken token = Due.withOfficer();
        token.create(0, Due.TOKEN | Due.WRAP, 1);
        Due.is("trust", token.trust(0, 1), 0);
        Due.is("TRUSTED", token.attributes(0, 1), Due.TOKEN | Due.WRAP | Due.TRUSTED);
        Due.is("again", token.trust(0, 1), 0);
        Due.is("as before", token.attributes(0, 1), Due.TOKEN | Due.WRAP | Due.TRUSTED);
        token.limit(0, 1, Due.WRAP);
        Due.is("TRUSTED, but it may not WRAP any more", token.trust(0, 1), HandleToken.ATTRIBUTES);
    }

    private static void promise12Refusals() {
        HandleToken token = Due.withUser();
        token.create(0, Due.TOKEN | Due.WRAP, 1);
        token.create(0, Due.TOKEN | Due.WRAP | Due.PRIVATE, 2);
        token.create(0, Due.WRAP, 3);
        token.create(0, Due.TOKEN | Due.UNWRAP, 4);
        Due.is("the user", token.trust(0, 1), HandleToken.LOGIN);
        Due.is("LOGIN before ATTRIBUTES", token.trust(0, 3), HandleToken.LOGIN);
        token.open(false);
        Due.is("LOGIN before READ_ONLY", token.trust(1, 1), HandleToken.LOGIN);
        token.close(1);
        token.logout(0);
        Due.is("nobody", token.trust(0, 1), HandleToken.LOGIN);
        Due.is("HANDLE before LOGIN", token.trust(0, 2), HandleToken.HANDLE);
        token.login(0, true, Due.OFFICER_PIN);
        Due.is("SESSION first", token.trust(1, 9), HandleToken.SESSION);
        Due.is("hidden from the officer", token.trust(0, 2), HandleToken.HANDLE);
        Due.is("no TOKEN object", token.trust(0, 3), HandleToken.ATTRIBUTES);
        Due.is("may not WRAP", token.trust(0, 4), HandleToken.ATTRIBUTES);
        Due.is("not TRUSTED", token.attributes(0, 3), Due.WRAP);
        Due.is("not TRUSTED either", token.attributes(0, 4), Due.TOKEN | Due.UNWRAP);
    }

    private static void promise13Reads() {
        HandleToken token = Due.opened();
        int[] values = {0, 1, -1, Integer.MAX_VALUE, Integer.MIN_VALUE, -5, 65536};
        for (int value : values) {
            int h = token.create(0, 0, value);
            Due.is("read " + value, token.read(0, h), Words.unsigned(value));
        }
        Due.is("neither use nor EXTRACTABLE is asked", token.read(0, token.create(0, Due.UNWRAP, 7)), 7);
    }

    private static void promise13Refusals() {
        HandleToken token = Due.withUser();
        token.create(0, Due.SENSITIVE | Due.EXTRACTABLE, 1);
        token.create(0, Due.TOKEN | Due.PRIVATE | Due.SENSITIVE, 2);
        Due.is("SESSION first", token.read(1, 9), HandleToken.SESSION);
        Due.is("HANDLE", token.read(0, 3), HandleToken.HANDLE);
        Due.is("SENSITIVE", token.read(0, 1), HandleToken.ATTRIBUTES);
        Due.is("SENSITIVE and PRIVATE", token.read(0, 2), HandleToken.ATTRIBUTES);
        token.logout(0);
        Due.is("HANDLE before ATTRIBUTES", token.read(0, 2), HandleToken.HANDLE);
    }
}

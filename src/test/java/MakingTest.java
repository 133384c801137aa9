/** Promises 7 (create), 8 (generate) and 9 (destroy). */
public final class MakingTest {
    public static void main(String[] args) {
        promise7Makes();
        promise7GoodAttributes();
        promise7Order();
        promise7Full();
        promise8Values();
        promise8Attributes();
        promise8Refusals();
        promise9Destroys();
        promise9Refusals();
        Due.end();
    }

    private static void promise7Makes() {
        HandleToken token = Due.opened();
        token.open(false);
        Due.is("first", token.create(0, 0, -1), 1);
        Due.is("its value", token.read(0, 1), 4294967295L);
        Due.is("second, in the other session", token.create(1, 77, Integer.MIN_VALUE), HandleToken.READ_ONLY);
        Due.is("a session object there", token.create(1, 76, Integer.MIN_VALUE), 2);
        Due.is("no attributes but those given", token.attributes(0, 2), 76);
        Due.is("a TOKEN object", token.create(0, Due.TOKEN, 0), 3);
        token.close(0);
        Due.is("the first was owned by 0", token.attributes(1, 1), HandleToken.HANDLE);
        Due.is("the second is owned by 1", token.attributes(1, 2), 76);
        Due.is("the third by none", token.attributes(1, 3), Due.TOKEN);
    }

    private static void promise7GoodAttributes() {
        for (int given = -3; given <= 1100; given++) {
            HandleToken token = Due.withUser();
            boolean wrapsAndDecrypts = (given & 160) == 160;
            boolean unwrapsAndEncrypts = (given & 272) == 272;
            boolean good = given >= 0 && given <= 511 && !wrapsAndDecrypts && !unwrapsAndEncrypts;
            Due.is("create with " + given, token.create(0, given, 5), good ? 1 : HandleToken.ATTRIBUTES);
            Due.is("generate with " + given, token.generate(0, given), good ? 2 : HandleToken.ATTRIBUTES);
            Due.is("kept of " + given, token.attributes(0, 1), good ? given : HandleToken.HANDLE);
        }
        HandleToken token = Due.withUser();
        Due.is("least int", token.create(0, Integer.MIN_VALUE, 5), HandleToken.ATTRIBUTES);
        Due.is("greatest int", token.create(0, Integer.MAX_VALUE, 5), HandleToken.ATTRIBUTES);
    }

    private static void promise7Order() {
        HandleToken token = Due.opened();
        token.open(false);
        Due.is("SESSION before LOGIN", token.create(2, -1, 0), HandleToken.SESSION);
        Due.is("LOGIN before READ_ONLY", token.create(1, 3, 0), HandleToken.LOGIN);
        Due.is("LOGIN with bad attributes", token.create(0, -1, 0), HandleToken.LOGIN);
        Due.is("LOGIN by bit 2 of 514", token.create(0, 514, 0), HandleToken.LOGIN);
        Due.is("READ_ONLY with bad attributes", token.create(1, 513, 0), HandleToken.READ_ONLY);
        Due.is("ATTRIBUTES in a read-only one", token.create(1, 512, 0), HandleToken.ATTRIBUTES);
        token.login(0, false, Due.USER_PIN);
        Due.is("the user, READ_ONLY", token.create(1, -1, 0), HandleToken.READ_ONLY);
        Due.is("the user, PRIVATE", token.create(1, 2, 0), 1);
        token.logout(0);
        token.close(1);
        token.login(0, true, Due.OFFICER_PIN);
        Due.is("the officer, PRIVATE", token.create(0, 2, 0), HandleToken.LOGIN);
        Due.is("the officer, not PRIVATE", token.create(0, 1, 0), 2);
    }

    private static void promise7Full() {
        HandleToken token = Due.withUser();
        Due.fill(token, 0, Due.TOKEN | Due.PRIVATE, 10);
        token.logout(0);
        Due.is("full of hidden ones", token.create(0, 0, 0), HandleToken.FULL);
        Due.is("LOGIN before FULL", token.create(0, 2, 0), HandleToken.LOGIN);
        Due.is("ATTRIBUTES before FULL", token.create(0, 160, 0), HandleToken.ATTRIBUTES);
        Due.is("a refused one is not made", token.status(5), 10);
        token.login(0, false, Due.USER_PIN);
        token.destroy(0, 10);
        Due.is("room again, another handle", token.create(0, 0, 0), 11);
        token.open(false);
        Due.is("READ_ONLY before FULL", token.create(1, 1, 0), HandleToken.READ_ONLY);
        Due.is("full again", token.create(1, 0, 0), HandleToken.FULL);
    }

    private static void promise8Values() {
        HandleToken token = Due.opened();
        token.create(0, 0, 9);
        for (int n = 0; n < 30; n++) {
            int h = token.generate(0, 0);
            Due.is("handle of generated " + n, h, n + 2);
            Due.is("value of generated " + n, token.read(0, h), Words.unsigned(Words.mac(n, 1234567)));
            token.destroy(0, h);
        }
        Due.is("the count is of one token", Due.opened().generate(0, 0), 1);
    }

    private static void promise8Attributes() {
        HandleToken token = Due.withUser();
        int[] given = {0, Due.SENSITIVE, Due.EXTRACTABLE, Due.SENSITIVE | Due.EXTRACTABLE, 511 - 32 - 16};
        int[] more = {Due.NEVER, Due.ALWAYS | Due.NEVER, 0, Due.ALWAYS, Due.ALWAYS};
        for (int i = 0; i < given.length; i++) {
            int h = token.generate(0, given[i]);
            Due.is("generated with " + given[i], token.attributes(0, h), given[i] + Due.LOCAL + more[i]);
        }
        token.open(false);
        token.generate(1, 0);
        token.close(1);
        Due.is("owned by its session", token.attributes(0, 6), HandleToken.HANDLE);
        token.close(0);
        token.open(true);
        Due.is("only the TOKEN one stays", token.status(4), 1);
    }

    private static void promise8Refusals() {
        HandleToken token = Due.opened();
        token.open(false);
        Due.is("SESSION", token.generate(2, 3), HandleToken.SESSION);
        Due.is("LOGIN", token.generate(1, -1), HandleToken.LOGIN);
        Due.is("READ_ONLY", token.generate(1, 513), HandleToken.READ_ONLY);
        Due.is("ATTRIBUTES", token.generate(0, 1024), HandleToken.ATTRIBUTES);
        Due.fill(token, 0, 0, 10);
        Due.is("FULL", token.generate(0, 0), HandleToken.FULL);
        token.destroy(0, 1);
        Due.is("made", token.generate(0, 0), 11);
        Due.is("no refused one counted", token.read(0, 11), Words.unsigned(Words.mac(0, 1234567)));
    }

    private static void promise9Destroys() {
        HandleToken token = Due.opened();
        token.open(false);
        for (int i = 1; i <= 4; i++) {
            token.create(0, Due.SIGN + (i == 4 ? Due.TOKEN : 0), 100 + i);
        }
        Due.is("a session object from another, read-only session", token.destroy(1, 2), 0);
        Due.is("gone", token.read(0, 2), HandleToken.HANDLE);
        Due.is("exist", token.status(4), 3);
        Due.is("made", token.status(5), 4);
        Due.is("the first is as it was", token.read(0, 1), 101);
        Due.is("the third is as it was", token.read(0, 3), 103);
        Due.is("the fourth has its attributes", token.attributes(0, 4), Due.SIGN + Due.TOKEN);
        Due.is("the TOKEN object", token.destroy(0, 4), 0);
        Due.is("the handle is not used again", token.create(0, 0, 0), 5);
        token.create(1, 0, 106);
        token.destroy(0, 1);
        token.close(0);
        Due.is("the others keep their owners", token.find(1, 0), 6);
        Due.is("no more", token.status(4), 1);
    }

    private static void promise9Refusals() {
        HandleToken token = Due.withUser();
        token.open(false);
        token.create(0, Due.TOKEN, 1);
        token.create(0, Due.TOKEN | Due.PRIVATE, 2);
        Due.is("SESSION first", token.destroy(2, 9), HandleToken.SESSION);
        int[] wrong = {0, -1, 3, Integer.MIN_VALUE, Integer.MAX_VALUE};
        for (int h : wrong) {
            Due.is("destroy " + h, token.destroy(0, h), HandleToken.HANDLE);
        }
        Due.is("READ_ONLY", token.destroy(1, 1), HandleToken.READ_ONLY);
        token.logout(0);
        Due.is("HANDLE of a hidden one before READ_ONLY", token.destroy(1, 2), HandleToken.HANDLE);
        token.close(1);
        token.login(0, true, Due.OFFICER_PIN);
        Due.is("hidden from the officer", token.destroy(0, 2), HandleToken.HANDLE);
        Due.is("all exist", token.status(4), 2);
    }
}

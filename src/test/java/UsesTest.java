/** Promises 14 (encrypt), 15 (decrypt), 16 (sign) and 19 (find). */
public final class UsesTest {
    private static final int[] SAMPLES = {
        0, 1, -1, 7, 255, 256, 65535, 65536, -65536, 305419896, -559038737,
        Integer.MAX_VALUE, Integer.MIN_VALUE
    };

    public static void main(String[] args) {
        promise14To16KnownAnswers();
        promise14To16Samples();
        promise14To16EachAsksItsUse();
        promise14To16Refusals();
        promise19Finds();
        promise19Refusals();
        Due.end();
    }

    private static void promise14To16KnownAnswers() {
        HandleToken token = Due.opened();
        token.create(0, Due.ENCRYPT | Due.DECRYPT, 305419896);
        Due.is("encrypt 7", token.encrypt(0, 1, 7), 2110150321L);
        Due.is("decrypt 7", token.decrypt(0, 1, 7), 10507597L);
        Due.is("encrypt -1", token.encrypt(0, 1, -1), 2884851858L);
        token.generate(0, Due.SIGN);
        token.generate(0, 0);
        Due.is("the value generated first", token.read(0, 2), 3656189786L);
        Due.is("the value generated next", token.read(0, 3), 879227435L);
        Due.is("sign 100", token.sign(0, 2, 100), 3370278840L);
    }

    private static void promise14To16Samples() {
        for (int key : SAMPLES) {
            HandleToken token = Due.opened();
            token.create(0, Due.ENCRYPT | Due.DECRYPT | Due.SIGN | Due.SENSITIVE, key);
            for (int word : SAMPLES) {
                String what = " of " + word + " under " + key;
                long encrypted = token.encrypt(0, 1, word);
                Due.is("ENC" + what, encrypted, Words.unsigned(Words.enc(key, word)));
                Due.is("DEC of ENC" + what, token.decrypt(0, 1, (int) encrypted), Words.unsigned(word));
                Due.is("DEC" + what, token.decrypt(0, 1, word), Words.unsigned(Words.dec(key, word)));
                Due.is("MAC" + what, token.sign(0, 1, word), Words.unsigned(Words.mac(key, word)));
            }
        }
    }

    private static void promise14To16EachAsksItsUse() {
        int[] uses = {0, Due.ENCRYPT, Due.DECRYPT, Due.SIGN, Due.WRAP, Due.UNWRAP, Due.TOKEN, Due.EXTRACTABLE};
        HandleToken token = Due.opened();
        for (int use : uses) {
            int h = token.create(0, use, 99);
            Due.is("encrypt with " + use, token.encrypt(0, h, 5), answerIf(use == Due.ENCRYPT, Words.enc(99, 5)));
            Due.is("decrypt with " + use, token.decrypt(0, h, 5), answerIf(use == Due.DECRYPT, Words.dec(99, 5)));
            Due.is("sign with " + use, token.sign(0, h, 5), answerIf(use == Due.SIGN, Words.mac(99, 5)));
        }
    }

    private static long answerIf(boolean may, int word) {
        return may ? Words.unsigned(word) : HandleToken.ATTRIBUTES;
    }

    private static void promise14To16Refusals() {
        HandleToken token = Due.withUser();
        token.create(0, Due.TOKEN | Due.PRIVATE | 112, 1);
        token.create(0, Due.TOKEN | Due.PRIVATE, 1);
        token.open(false);
        Due.is("the user encrypts in a read-only one", token.encrypt(1, 1, 3), Words.unsigned(Words.enc(1, 3)));
        token.logout(0);
        for (int h = -1; h <= 3; h++) {
            Due.is("encrypt with hidden or none " + h, token.encrypt(0, h, 3), HandleToken.HANDLE);
            Due.is("decrypt with hidden or none " + h, token.decrypt(0, h, 3), HandleToken.HANDLE);
            Due.is("sign with hidden or none " + h, token.sign(0, h, 3), HandleToken.HANDLE);
            Due.is("encrypt in no session", token.encrypt(2, h, 3), HandleToken.SESSION);
            Due.is("decrypt in no session", token.decrypt(3, h, 3), HandleToken.SESSION);
            Due.is("sign in no session", token.sign(-1, h, 3), HandleToken.SESSION);
        }
    }

    private static void promise19Finds() {
        HandleToken token = Due.withUser();
        token.open(false);
        int[] given = {0, 3, 1, 2, 0, 3};
        for (int i = 0; i < given.length; i++) {
            token.create(0, given[i], i);
        }
        for (int k = 0; k < 6; k++) {
            Due.is("the user finds " + k, token.find(1, k), k + 1);
        }
        token.destroy(0, 1);
        token.create(0, 1, 7);
        int[] left = {2, 3, 4, 5, 6, 7, 0};
        for (int k = 0; k < left.length; k++) {
            Due.is("by ascending handles " + k, token.find(0, k), left[k]);
        }
        token.logout(0);
        int[] visible = {3, 5, 7, 0, 0};
        for (int k = 0; k < visible.length; k++) {
            Due.is("nobody finds " + k, token.find(1, k), visible[k]);
        }
        token.close(1);
        token.login(0, true, Due.OFFICER_PIN);
        Due.is("the officer finds as nobody does", token.find(0, 2), 7);
        Due.is("and no more", token.find(0, 3), 0);
    }

    private static void promise19Refusals() {
        HandleToken token = Due.opened();
        Due.fill(token, 0, 0, 10);
        Due.is("the last", token.find(0, 9), 10);
        int[] none = {10, 11, -1, -2, Integer.MAX_VALUE, Integer.MIN_VALUE};
        for (int k : none) {
            Due.is("find " + k, token.find(0, k), 0);
        }
        Due.is("SESSION", token.find(1, 0), HandleToken.SESSION);
        Due.is("SESSION, k below 0", token.find(3, -1), HandleToken.SESSION);
    }
}

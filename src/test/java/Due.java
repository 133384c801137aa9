/** Counts the answers that are not the ones due, and the attributes by name. */
final class Due {
    static final int TOKEN = 1;
    static final int PRIVATE = 2;
    static final int SENSITIVE = 4;
    static final int EXTRACTABLE = 8;
    static final int ENCRYPT = 16;
    static final int DECRYPT = 32;
    static final int SIGN = 64;
    static final int WRAP = 128;
    static final int UNWRAP = 256;
    static final int TRUSTED = 512;
    static final int LOCAL = 1024;
    static final int ALWAYS = 2048;
    static final int NEVER = 4096;

    static final int USER_PIN = 1111;
    static final int OFFICER_PIN = 9999;

    private static int wrong = 0;
    private static int looked = 0;
    private static String sentence = "";

    private Due() {
    }

    /** The document's own words: those that are broken if one of the answers looked at next is not as due. */
    static void sentence(String words) {
        sentence = " [" + words + "]";
    }

    static void is(String what, long got, long due) {
        looked++;
        if (got != due) {
            wrong++;
            System.out.println(what + " answered " + got + ", due is " + due + sentence);
        }
    }

    static void holds(String what, boolean right) {
        is(what, right ? 1 : 0, 1);
    }

    static void text(String what, String got, String due) {
        looked++;
        if (!got.equals(due)) {
            wrong++;
            System.out.println(what + " went on as\n" + got + "due is\n" + due + sentence);
        }
    }

    static void end() {
        System.out.println(looked + " answers looked at, " + wrong + " not as due");
        if (wrong != 0) {
            System.exit(1);
        }
    }

    /** A token whose session 0 is open, read-write; nobody is logged in. */
    static HandleToken opened() {
        HandleToken token = new HandleToken(USER_PIN, OFFICER_PIN);
        token.open(true);
        return token;
    }

    static HandleToken withUser() {
        HandleToken token = opened();
        token.login(0, false, USER_PIN);
        return token;
    }

    static HandleToken withOfficer() {
        HandleToken token = opened();
        token.login(0, true, OFFICER_PIN);
        return token;
    }

    static void fill(HandleToken token, int s, int attributes, int count) {
        for (int i = 0; i < count; i++) {
            token.create(s, attributes, i);
        }
    }
}

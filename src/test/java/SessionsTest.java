/** Promises 1 (a new object), 2 (open), 3 (close) and 20 (status). */
public final class SessionsTest {
    public static void main(String[] args) {
        promise1NewObject();
        promise1Pins();
        promise2OpensTheLeast();
        promise2Refusals();
        promise3DestroysItsSessionObjects();
        promise3LogsOutWithTheLast();
        promise3Refusals();
        promise20Sessions();
        promise20CountsAndOthers();
        Due.end();
    }

    private static void promise1NewObject() {
        HandleToken token = new HandleToken(5, 6);
        for (int what = 0; what <= 5; what++) {
            Due.is("new status " + what, token.status(what), 0);
        }
        for (int s = 0; s < 3; s++) {
            Due.is("new close " + s, token.close(s), HandleToken.SESSION);
            Due.is("new find in " + s, token.find(s, 0), HandleToken.SESSION);
        }
        token.open(true);
        Due.is("new find", token.find(0, 0), 0);
        Due.is("new logout", token.logout(0), HandleToken.LOGIN);
    }

    private static void promise1Pins() {
        HandleToken token = new HandleToken(Integer.MIN_VALUE, -1);
        token.open(true);
        Due.is("user with officer's pin", token.login(0, false, -1), HandleToken.PIN);
        Due.is("officer with user's pin", token.login(0, true, Integer.MIN_VALUE), HandleToken.PIN);
        Due.is("user", token.login(0, false, Integer.MIN_VALUE), 0);
        token.logout(0);
        Due.is("officer", token.login(0, true, -1), 0);
        HandleToken other = new HandleToken(1, 2);
        Due.is("another token has its own sessions", other.status(1), 0);
    }

    private static void promise2OpensTheLeast() {
        HandleToken token = new HandleToken(1, 2);
        Due.is("first", token.open(false), 0);
        Due.is("second", token.open(true), 1);
        Due.is("third", token.open(false), 2);
        token.close(1);
        Due.is("the closed one again", token.open(false), 1);
        Due.is("read-only now", token.create(1, Due.TOKEN, 1), HandleToken.READ_ONLY);
        token.close(2);
        token.close(0);
        Due.is("the least of two", token.open(true), 0);
        Due.is("read-write now", token.create(0, Due.TOKEN, 1), 1);
        Due.is("then the other", token.open(true), 2);
    }

    private static void promise2Refusals() {
        HandleToken token = Due.withOfficer();
        Due.is("read-only beside the officer", token.open(false), HandleToken.LOGIN);
        Due.is("it changed nothing", token.status(1), 9);
        Due.is("read-write beside the officer", token.open(true), 1);
        Due.is("third", token.open(true), 2);
        Due.is("fourth", token.open(true), HandleToken.FULL);
        Due.is("LOGIN stands before FULL", token.open(false), HandleToken.LOGIN);
        token.logout(0);
        Due.is("fourth, read-only", token.open(false), HandleToken.FULL);
        token.login(0, false, Due.USER_PIN);
        token.close(2);
        Due.is("read-only beside the user", token.open(false), 2);
        Due.is("the user stays", token.status(0), 1);
    }

    private static void promise3DestroysItsSessionObjects() {
        HandleToken token = Due.withUser();
        token.open(true);
        token.create(0, 0, 1);
        token.create(1, 0, 2);
        token.create(1, Due.TOKEN, 3);
        token.create(1, Due.PRIVATE, 4);
        token.create(0, Due.PRIVATE, 5);
        token.generate(1, Due.TOKEN | Due.PRIVATE);
        token.create(1, 0, 7);
        Due.is("close", token.close(1), 0);
        int[] left = {1, 3, 5, 6};
        for (int k = 0; k < left.length; k++) {
            Due.is("left " + k, token.find(0, k), left[k]);
        }
        Due.is("no more", token.find(0, 4), 0);
        Due.is("exist", token.status(4), 4);
        Due.is("the user stays", token.status(0), 1);
        Due.is("open sessions", token.status(1), 9);
        Due.is("its handles are not used again", token.create(0, 0, 8), 8);
        token.open(true);
        Due.is("nothing comes back", token.attributes(1, 2), HandleToken.HANDLE);
    }

    private static void promise3LogsOutWithTheLast() {
        HandleToken token = Due.withOfficer();
        token.open(true);
        token.close(0);
        Due.is("the officer stays", token.status(0), 2);
        token.close(1);
        Due.is("nobody", token.status(0), 0);
        token.open(true);
        Due.is("login again", token.login(0, false, Due.USER_PIN), 0);
        token.create(0, Due.TOKEN | Due.PRIVATE, 77);
        token.close(0);
        Due.is("nobody again", token.status(0), 0);
        Due.is("the TOKEN object stays", token.status(4), 1);
        token.open(false);
        Due.is("hidden", token.read(0, 1), HandleToken.HANDLE);
        token.login(0, false, Due.USER_PIN);
        Due.is("shown", token.read(0, 1), 77);
    }

    private static void promise3Refusals() {
        HandleToken token = Due.opened();
        int[] wrong = {-1, 1, 2, 3, 32, 33, -32, Integer.MAX_VALUE, Integer.MIN_VALUE};
        for (int s : wrong) {
            Due.is("close " + s, token.close(s), HandleToken.SESSION);
        }
        Due.is("still open", token.status(1), 9);
        token.close(0);
        Due.is("closed twice", token.close(0), HandleToken.SESSION);
    }

    private static void promise20Sessions() {
        HandleToken token = new HandleToken(1, 2);
        token.open(false);
        Due.is("0 read-only", token.status(1), 1);
        token.open(true);
        Due.is("1 read-write", token.status(1), 1 + 2 + 16);
        token.open(true);
        Due.is("2 read-write", token.status(1), 1 + 2 + 4 + 16 + 32);
        token.close(1);
        Due.is("1 closed", token.status(1), 1 + 4 + 32);
        token.open(false);
        Due.is("1 read-only", token.status(1), 1 + 2 + 4 + 32);
    }

    private static void promise20CountsAndOthers() {
        HandleToken token = Due.opened();
        token.login(0, false, 0);
        token.login(0, true, 0);
        token.login(0, true, 0);
        Due.is("failures of the user", token.status(2), 1);
        Due.is("failures of the officer", token.status(3), 2);
        token.login(0, false, Due.USER_PIN);
        Due.is("the user", token.status(0), 1);
        token.create(0, Due.TOKEN | Due.PRIVATE, 1);
        token.generate(0, 0);
        token.create(0, 512, 1);
        token.destroy(0, 2);
        token.logout(0);
        token.login(0, true, Due.OFFICER_PIN);
        Due.is("the officer", token.status(0), 2);
        Due.is("exist, the hidden one too", token.status(4), 1);
        Due.is("made in all", token.status(5), 2);
        int[] others = {-1, 6, 7, 32, Integer.MAX_VALUE, Integer.MIN_VALUE};
        for (int what : others) {
            Due.is("status " + what, token.status(what), -1);
        }
    }
}

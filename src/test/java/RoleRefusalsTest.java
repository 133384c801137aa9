import java.util.function.Supplier;

/**
 * Promises 2 to 6: each refusal alone and each two that can fit at the same time, in the order of
 * the document's list; no refused call changes anything (but that PIN counts a failure).
 */
public final class RoleRefusalsTest {
    private static final int WRONG = 5;

    public static void main(String[] args) {
        Due.sentence("Of several that fit (whatever order a call names them in), the one that stands first");
        open();
        close();
        loginOne();
        loginTwo();
        loginPin();
        logout();
        unlock();
        Due.end();
    }

    private static void open() {
        Supplier<HandleToken> fullOfSessions = () -> withThird(World.nobody());
        Refused.is("open: LOGIN", World::officer, t -> t.open(false), HandleToken.LOGIN);
        Refused.is("open: FULL, read-only", fullOfSessions, t -> t.open(false), HandleToken.FULL);
        Refused.is("open: FULL, read-write", fullOfSessions, t -> t.open(true), HandleToken.FULL);
        Refused.is("open: FULL beside the user", () -> withThird(World.user()), t -> t.open(false), HandleToken.FULL);
        Supplier<HandleToken> both = () -> withThird(World.officer());
        Refused.is("open: FULL beside the officer", both, t -> t.open(true), HandleToken.FULL);
        Refused.is("open: LOGIN and FULL", both, t -> t.open(false), HandleToken.LOGIN);
    }

    private static HandleToken withThird(HandleToken token) {
        token.open(true);
        return token;
    }

    private static void close() {
        for (int s : World.NO_SESSIONS) {
            Refused.is("close: SESSION " + s, World::user, t -> t.close(s), HandleToken.SESSION);
        }
    }

    private static void loginOne() {
        for (int s : World.NO_SESSIONS) {
            Refused.is("login: SESSION " + s, World::nobody, t -> t.login(s, false, Due.USER_PIN), HandleToken.SESSION);
        }
        Refused.is("login: LOGIN, user twice", World::user, t -> t.login(0, false, Due.USER_PIN), HandleToken.LOGIN);
        Refused.is("login: LOGIN, officer twice", World::officer,
            t -> t.login(0, true, Due.OFFICER_PIN), HandleToken.LOGIN);
        Refused.is("login: LOGIN, user beside the officer", World::officer,
            t -> t.login(0, false, Due.USER_PIN), HandleToken.LOGIN);
        Refused.is("login: LOGIN, officer beside the user", () -> World.withoutReads(World.user()),
            t -> t.login(0, true, Due.OFFICER_PIN), HandleToken.LOGIN);
        Refused.is("login: READ_ONLY, another session", World::nobody,
            t -> t.login(World.WRITES, true, Due.OFFICER_PIN), HandleToken.READ_ONLY);
        Refused.is("login: READ_ONLY, its own session", World::nobody,
            t -> t.login(World.READS, true, Due.OFFICER_PIN), HandleToken.READ_ONLY);
        Refused.is("login: LOCKED, user", () -> World.failed(World.nobody(), false, 3),
            t -> t.login(0, false, Due.USER_PIN), HandleToken.LOCKED);
        Refused.is("login: LOCKED, officer", RoleRefusalsTest::officerLocked,
            t -> t.login(0, true, Due.OFFICER_PIN), HandleToken.LOCKED);
    }

    private static HandleToken officerLocked() {
        return World.failed(World.withoutReads(World.nobody()), true, 3);
    }

    private static void loginTwo() {
        int none = World.CLOSED;
        Refused.is("login: SESSION and LOGIN", World::user, t -> t.login(none, false, Due.USER_PIN), HandleToken.SESSION);
        Refused.is("login: SESSION and READ_ONLY", World::nobody,
            t -> t.login(none, true, Due.OFFICER_PIN), HandleToken.SESSION);
        Refused.is("login: SESSION and LOCKED", RoleRefusalsTest::officerLocked,
            t -> t.login(none, true, Due.OFFICER_PIN), HandleToken.SESSION);
        Refused.is("login: SESSION and PIN", World::nobody, t -> t.login(none, false, WRONG), HandleToken.SESSION);
        Refused.is("login: LOGIN and READ_ONLY", World::user,
            t -> t.login(0, true, Due.OFFICER_PIN), HandleToken.LOGIN);
        Refused.is("login: LOGIN and LOCKED", RoleRefusalsTest::officerLockedBesideUser,
            t -> t.login(0, true, Due.OFFICER_PIN), HandleToken.LOGIN);
        Refused.is("login: LOGIN and PIN of the user", World::user, t -> t.login(0, false, WRONG), HandleToken.LOGIN);
        Refused.is("login: LOGIN and PIN of the officer", World::officer,
            t -> t.login(0, true, WRONG), HandleToken.LOGIN);
        Supplier<HandleToken> lockedAndReadOnly = RoleRefusalsTest::officerLockedBesideReadOnly;
        Refused.is("login: READ_ONLY and LOCKED", lockedAndReadOnly,
            t -> t.login(0, true, Due.OFFICER_PIN), HandleToken.READ_ONLY);
        Refused.is("login: READ_ONLY and PIN", World::nobody, t -> t.login(0, true, WRONG), HandleToken.READ_ONLY);
        Refused.is("login: LOCKED and PIN of the user", () -> World.failed(World.nobody(), false, 3),
            t -> t.login(0, false, WRONG), HandleToken.LOCKED);
        Refused.is("login: LOCKED and PIN of the officer", RoleRefusalsTest::officerLocked,
            t -> t.login(0, true, WRONG), HandleToken.LOCKED);
    }

    private static HandleToken officerLockedBesideUser() {
        HandleToken token = officerLocked();
        token.login(0, false, Due.USER_PIN);
        return token;
    }

    private static HandleToken officerLockedBesideReadOnly() {
        HandleToken token = officerLocked();
        token.open(false);
        return token;
    }

    private static void loginPin() {
        Due.sentence("A call that is refused answers a code below 0 and changes nothing"
            + " (but login counts a failure when it answers PIN).");
        for (int before = 0; before < 2; before++) {
            int times = before;
            Refused.isPin("login: PIN of the user after " + times,
                () -> World.failed(World.nobody(), false, times), false, WRONG);
            Refused.isPin("login: PIN of the officer after " + times,
                () -> World.failed(World.withoutReads(World.nobody()), true, times), true, WRONG);
        }
        HandleToken token = World.failed(World.nobody(), false, 2);
        Due.is("login: PIN, the third", token.login(0, false, WRONG), HandleToken.PIN);
        Due.is("login: three failures", token.status(2), 3);
        Due.is("login: none of the officer", token.status(3), 0);
    }

    private static void logout() {
        Due.sentence("SESSION; LOGIN when nobody is logged in.");
        for (int s : World.NO_SESSIONS) {
            Refused.is("logout: SESSION " + s, World::user, t -> t.logout(s), HandleToken.SESSION);
        }
        Refused.is("logout: LOGIN", World::nobody, t -> t.logout(0), HandleToken.LOGIN);
        Refused.is("logout: SESSION and LOGIN", World::nobody, t -> t.logout(World.CLOSED), HandleToken.SESSION);
    }

    private static void unlock() {
        Due.sentence("SESSION; LOGIN when the officer is not logged in.");
        for (int s : World.NO_SESSIONS) {
            Refused.is("unlock: SESSION " + s, World::officer, t -> t.unlock(s, WRONG), HandleToken.SESSION);
        }
        Refused.is("unlock: LOGIN, nobody", World::nobody, t -> t.unlock(0, WRONG), HandleToken.LOGIN);
        Refused.is("unlock: LOGIN, the user", World::user, t -> t.unlock(0, WRONG), HandleToken.LOGIN);
        Refused.is("unlock: LOGIN, a locked user", () -> World.failed(World.nobody(), false, 3),
            t -> t.unlock(0, WRONG), HandleToken.LOGIN);
        Refused.is("unlock: SESSION and LOGIN", World::user, t -> t.unlock(World.CLOSED, WRONG), HandleToken.SESSION);
    }
}

/** Promises 4 (login), 5 (logout) and 6 (unlock). */
public final class RolesTest {
    public static void main(String[] args) {
        promise4LogsIn();
        promise4Order();
        promise4CountsFailures();
        promise4LockIsOfOneRole();
        promise5LogsOut();
        promise5DestroysPrivateSessionObjects();
        promise6GivesAnotherPin();
        promise6Refusals();
        Due.end();
    }

    private static void promise4LogsIn() {
        HandleToken token = Due.opened();
        Due.is("user", token.login(0, false, Due.USER_PIN), 0);
        Due.is("who", token.status(0), 1);
        Due.is("again", token.login(0, false, Due.USER_PIN), HandleToken.LOGIN);
        Due.is("the officer beside", token.login(0, true, Due.OFFICER_PIN), HandleToken.LOGIN);
        token.open(false);
        Due.is("for the whole token", token.create(1, Due.PRIVATE, 1), 1);
        token.close(1);
        token.logout(0);
        Due.is("officer", token.login(0, true, Due.OFFICER_PIN), 0);
        Due.is("who now", token.status(0), 2);
        Due.is("the user beside", token.login(0, false, Due.USER_PIN), HandleToken.LOGIN);
    }

    private static void promise4Order() {
        HandleToken token = Due.opened();
        Due.is("SESSION first", token.login(1, true, 0), HandleToken.SESSION);
        token.open(false);
        Due.is("READ_ONLY in a read-write one, too", token.login(0, true, Due.OFFICER_PIN), HandleToken.READ_ONLY);
        Due.is("READ_ONLY before PIN", token.login(0, true, 0), HandleToken.READ_ONLY);
        Due.is("no failure", token.status(3), 0);
        Due.is("the user in a read-only one", token.login(1, false, Due.USER_PIN), 0);
        Due.is("LOGIN before READ_ONLY", token.login(0, true, 0), HandleToken.LOGIN);
        Due.is("LOGIN before PIN", token.login(0, false, 0), HandleToken.LOGIN);
        Due.is("no failure of the user", token.status(2), 0);
        Due.is("none of the officer", token.status(3), 0);
        token.logout(0);
        token.close(1);
        for (int i = 0; i < 3; i++) {
            token.login(0, true, 0);
        }
        token.open(false);
        Due.is("READ_ONLY before LOCKED", token.login(0, true, Due.OFFICER_PIN), HandleToken.READ_ONLY);
    }

    private static void promise4CountsFailures() {
        HandleToken token = Due.opened();
        token.login(0, false, 0);
        token.login(0, false, 1);
        Due.is("two failures", token.status(2), 2);
        Due.is("right at the third", token.login(0, false, Due.USER_PIN), 0);
        Due.is("failures begin anew", token.status(2), 0);
        token.logout(0);
        for (int i = 1; i <= 3; i++) {
            Due.is("wrong " + i, token.login(0, false, -i), HandleToken.PIN);
            Due.is("failures " + i, token.status(2), i);
        }
        Due.is("nobody", token.status(0), 0);
        Due.is("wrong when locked", token.login(0, false, 0), HandleToken.LOCKED);
        Due.is("right when locked", token.login(0, false, Due.USER_PIN), HandleToken.LOCKED);
        Due.is("no fourth", token.status(2), 3);
        token.close(0);
        token.open(true);
        Due.is("closing does not unlock", token.login(0, false, Due.USER_PIN), HandleToken.LOCKED);
    }

    private static void promise4LockIsOfOneRole() {
        HandleToken token = Due.opened();
        token.login(0, false, 0);
        for (int i = 0; i < 3; i++) {
            token.login(0, true, 0);
        }
        Due.is("the officer is locked", token.login(0, true, Due.OFFICER_PIN), HandleToken.LOCKED);
        Due.is("the user's failures are its own", token.status(2), 1);
        Due.is("the user is not locked", token.login(0, false, Due.USER_PIN), 0);
        Due.is("the officer stays locked", token.status(3), 3);
    }

    private static void promise5LogsOut() {
        HandleToken token = Due.opened();
        Due.is("nobody", token.logout(0), HandleToken.LOGIN);
        Due.is("SESSION first", token.logout(1), HandleToken.SESSION);
        token.login(0, false, Due.USER_PIN);
        Due.is("no such session", token.logout(2), HandleToken.SESSION);
        Due.is("the user stays", token.status(0), 1);
        token.open(false);
        Due.is("in any session", token.logout(1), 0);
        Due.is("nobody now", token.status(0), 0);
        token.close(1);
        token.login(0, true, Due.OFFICER_PIN);
        Due.is("the officer", token.logout(0), 0);
        Due.is("nobody again", token.status(0), 0);
    }

    private static void promise5DestroysPrivateSessionObjects() {
        HandleToken token = Due.withUser();
        token.open(false);
        token.create(0, Due.PRIVATE, 1);
        token.create(1, Due.PRIVATE, 2);
        token.create(1, 0, 3);
        token.create(0, Due.PRIVATE | Due.TOKEN, 4);
        token.create(0, Due.TOKEN, 5);
        token.create(0, Due.PRIVATE, 6);
        token.create(0, Due.PRIVATE, 7);
        Due.is("logout", token.logout(0), 0);
        Due.is("exist", token.status(4), 3);
        Due.is("first visible", token.find(0, 0), 3);
        Due.is("second visible", token.find(0, 1), 5);
        Due.is("no third", token.find(0, 2), 0);
        token.login(0, false, Due.USER_PIN);
        Due.is("the private TOKEN object stayed", token.find(0, 1), 4);
        Due.is("no others", token.find(0, 3), 0);
    }

    private static void promise6GivesAnotherPin() {
        HandleToken token = Due.opened();
        for (int i = 0; i < 3; i++) {
            token.login(0, false, 0);
        }
        token.login(0, true, 0);
        token.login(0, true, Due.OFFICER_PIN);
        Due.is("unlock", token.unlock(0, -77), 0);
        Due.is("failures", token.status(2), 0);
        Due.is("the officer stays", token.status(0), 2);
        token.logout(0);
        Due.is("the old PIN", token.login(0, false, Due.USER_PIN), HandleToken.PIN);
        Due.is("the new PIN", token.login(0, false, -77), 0);
        token.logout(0);
        Due.is("the officer's PIN is as it was", token.login(0, true, Due.OFFICER_PIN), 0);
        Due.is("the same PIN", token.unlock(0, -77), 0);
        token.logout(0);
        Due.is("it still is right", token.login(0, false, -77), 0);
    }

    private static void promise6Refusals() {
        HandleToken token = Due.opened();
        Due.is("nobody", token.unlock(0, 5), HandleToken.LOGIN);
        Due.is("SESSION first", token.unlock(1, 5), HandleToken.SESSION);
        token.login(0, false, Due.USER_PIN);
        Due.is("the user", token.unlock(0, 5), HandleToken.LOGIN);
        token.logout(0);
        token.login(0, false, 0);
        token.login(0, true, Due.OFFICER_PIN);
        Due.is("no such session", token.unlock(-1, 5), HandleToken.SESSION);
        Due.is("failures stay", token.status(2), 1);
        token.logout(0);
        Due.is("the PIN is as it was", token.login(0, false, Due.USER_PIN), 0);
    }
}

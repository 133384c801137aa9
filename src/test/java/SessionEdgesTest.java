/** Promises 1 to 6 and 20: a test for each of their sentences that names an edge. */
public final class SessionEdgesTest {
    private static final int[] PINS = {0, 1, -1, Integer.MAX_VALUE, Integer.MIN_VALUE};

    public static void main(String[] args) {
        newObject();
        newPins();
        openTheLeast();
        openOneThatWas();
        openReadOnlyBesideTheOfficer();
        openWhenThreeAreOpen();
        closeItsSessionObjects();
        closeAFullSession();
        closeTheLast();
        closeNotTheLast();
        loginFailuresAreZero();
        loginWhenSomebodyIs();
        loginBesideReadOnly();
        loginLocked();
        loginNoOtherRefusalCounts();
        logoutOfAllSessions();
        logoutAndNobody();
        unlockAnotherOrTheSame();
        unlockWhateverTheFailures();
        statusWho();
        statusSessions();
        statusFailures();
        statusObjects();
        statusAnother();
        Due.end();
    }

    private static void newObject() {
        Due.sentence("No session is open, nobody is logged in, there are no objects, no failures");
        HandleToken token = new HandleToken(0, 0);
        for (int what = 0; what <= 5; what++) {
            Due.is("status " + what, token.status(what), 0);
        }
        for (int s = 0; s < 3; s++) {
            Due.is("session " + s, token.find(s, 0), HandleToken.SESSION);
        }
        World.full(World.user());
        Due.is("after another was used", new HandleToken(Due.USER_PIN, Due.OFFICER_PIN).status(4), 0);
    }

    private static void newPins() {
        Due.sentence("the two have these PINs.");
        for (int user : PINS) {
            for (int officer : PINS) {
                HandleToken token = new HandleToken(user, officer);
                token.open(true);
                Due.is("another PIN", token.login(0, false, user + 2), HandleToken.PIN);
                Due.is("the user's " + user, token.login(0, false, user), 0);
                token.logout(0);
                Due.is("another PIN", token.login(0, true, officer + 2), HandleToken.PIN);
                int mixed = token.login(0, true, user);
                Due.is("the user's for the officer", mixed, user == officer ? 0 : HandleToken.PIN);
                Due.is("the officer's " + officer, token.login(0, true, officer), user == officer ? HandleToken.LOGIN : 0);
            }
        }
    }

    private static void openTheLeast() {
        Due.sentence("Opens the least session that is not open (also one that was), read-write or read-only: its number.");
        for (int open = 0; open < 8; open++) {
            HandleToken token = new HandleToken(1, 2);
            for (int s = 0; s < 3; s++) {
                token.open(true);
            }
            for (int s = 0; s < 3; s++) {
                if ((open & 1 << s) == 0) {
                    token.close(s);
                }
            }
            int least = Integer.numberOfTrailingZeros(~open);
            Due.is("beside " + open, token.open(true), least < 3 ? least : HandleToken.FULL);
            Due.is("open now", token.status(1) & 7, least < 3 ? open | 1 << least : 7);
        }
    }

    private static void openOneThatWas() {
        Due.sentence("Opens the least session that is not open (also one that was), read-write or read-only: its number.");
        for (int s = 0; s < 3; s++) {
            HandleToken token = new HandleToken(1, 2);
            for (int i = 0; i < 3; i++) {
                token.open(true);
            }
            token.create(s, 0, 5);
            token.close(s);
            Due.is("once read-write", token.open(false), s);
            Due.is("read-only now", token.create(s, Due.TOKEN, 5), HandleToken.READ_ONLY);
            Due.is("status", token.status(1), 7 + (56 & ~(8 << s)));
            Due.is("without its old objects", token.find(s, 0), 0);
            token.close(s);
            Due.is("once read-only", token.open(true), s);
            Due.is("read-write now", token.create(s, Due.TOKEN, 5), 2);
        }
    }

    private static void openReadOnlyBesideTheOfficer() {
        Due.sentence("LOGIN when it would be read-only and the officer is logged in");
        HandleToken token = Due.withOfficer();
        Due.is("read-only", token.open(false), HandleToken.LOGIN);
        Due.is("read-write", token.open(true), 1);
        token.logout(0);
        Due.is("the officer is gone", token.open(false), 2);
        HandleToken other = Due.withUser();
        Due.is("beside the user", other.open(false), 1);
        HandleToken third = Due.withOfficer();
        third.close(0);
        Due.is("the officer went with the last session", third.open(false), 0);
    }

    private static void openWhenThreeAreOpen() {
        Due.sentence("FULL when three are open.");
        HandleToken token = new HandleToken(1, 2);
        token.open(true);
        token.open(false);
        Due.is("the third", token.open(false), 2);
        Due.is("a fourth, read-only", token.open(false), HandleToken.FULL);
        Due.is("a fourth, read-write", token.open(true), HandleToken.FULL);
        Due.is("status", token.status(1), 7 + 8);
        token.close(2);
        Due.is("two are open", token.open(true), 2);
    }

    private static void closeItsSessionObjects() {
        Due.sentence("Its session objects are destroyed (their handles are not used again)");
        for (int gone = 0; gone < 3; gone++) {
            HandleToken token = Due.withUser();
            token.open(true);
            token.open(true);
            for (int h = 1; h <= 9; h++) {
                token.create((h - 1) % 3, h > 6 ? Due.TOKEN : h > 3 ? Due.PRIVATE : 0, h);
            }
            Due.is("close", token.close(gone), 0);
            int from = gone == 0 ? 1 : 0;
            for (int h = 1; h <= 9; h++) {
                boolean stays = h > 6 || (h - 1) % 3 != gone;
                Due.is("key " + h + " without " + gone, token.read(from, h), stays ? h : HandleToken.HANDLE);
            }
            Due.is("exist", token.status(4), 7);
            Due.is("the next handle", token.create(from, 0, 5), 10);
            token.open(true);
            Due.is("nothing comes back", token.status(4), 8);
        }
    }

    private static void closeAFullSession() {
        Due.sentence("Its session objects are destroyed (their handles are not used again)");
        HandleToken token = Due.opened();
        Due.is("none", token.close(0), 0);
        token.open(true);
        Due.fill(token, 0, 0, 10);
        token.close(0);
        Due.is("all ten", token.status(4), 0);
        token.open(false);
        Due.is("made after them", token.create(0, 0, 1), 11);
        Due.is("made in all", token.status(5), 11);
    }

    private static void closeTheLast() {
        Due.sentence("when no session is open any more, nobody is logged in (else all stays so)");
        for (int last = 0; last < 3; last++) {
            for (int role = 0; role < 2; role++) {
                boolean officer = role == 1;
                HandleToken token = new HandleToken(1, 1);
                for (int i = 0; i < 3; i++) {
                    token.open(true);
                }
                token.login(last, officer, 1);
                for (int s = 0; s < 3; s++) {
                    if (s != last) {
                        token.close(s);
                    }
                }
                Due.is("still logged in", token.status(0), role + 1);
                Due.is("close the last", token.close(last), 0);
                Due.is("nobody", token.status(0), 0);
                token.open(true);
                Due.is("nor after opening", token.logout(0), HandleToken.LOGIN);
            }
        }
    }

    private static void closeNotTheLast() {
        Due.sentence("when no session is open any more, nobody is logged in (else all stays so)");
        HandleToken token = World.failed(World.withoutReads(World.nobody()), true, 2);
        token.open(false);
        token.login(0, false, Due.USER_PIN);
        token.create(1, Due.PRIVATE, 8);
        token.create(1, 0, 9);
        Due.is("close", token.close(0), 0);
        Due.is("the user", token.status(0), 1);
        Due.is("its private one", token.read(1, 8), 8);
        Due.is("its other one", token.read(1, 9), 9);
        Due.is("still read-only", token.status(1), 2);
        Due.is("the officer's failures", token.status(3), 2);
        token.close(1);
        Due.is("the failures with the last, too", token.status(3), 2);
    }

    private static void loginFailuresAreZero() {
        Due.sentence("Logs the officer (true) or the user (false) in: 0, and its failures are 0.");
        for (int times = 0; times < 3; times++) {
            HandleToken user = World.failed(World.withoutReads(World.nobody()), false, times);
            World.failed(user, true, 1);
            Due.is("failures", user.status(2), times);
            Due.is("the user after " + times, user.login(0, false, Due.USER_PIN), 0);
            Due.is("the user's", user.status(2), 0);
            Due.is("the officer's are its own", user.status(3), 1);
            HandleToken officer = World.failed(World.withoutReads(World.nobody()), true, times);
            World.failed(officer, false, 1);
            Due.is("the officer after " + times, officer.login(0, true, Due.OFFICER_PIN), 0);
            Due.is("the officer's", officer.status(3), 0);
            Due.is("the user's are its own", officer.status(2), 1);
        }
        HandleToken token = World.failed(Due.opened(), false, 2);
        token.login(0, false, Due.USER_PIN);
        token.logout(0);
        World.failed(token, false, 2);
        Due.is("two after the two that were", token.login(0, false, Due.USER_PIN), 0);
    }

    private static void loginWhenSomebodyIs() {
        Due.sentence("LOGIN when somebody is logged in");
        for (int role = 0; role < 2; role++) {
            HandleToken token = role == 0 ? Due.withUser() : Due.withOfficer();
            token.open(true);
            for (int s = 0; s < 2; s++) {
                Due.is("the user in " + s, token.login(s, false, Due.USER_PIN), HandleToken.LOGIN);
                Due.is("the officer in " + s, token.login(s, true, Due.OFFICER_PIN), HandleToken.LOGIN);
            }
            Due.is("the same is logged in", token.status(0), role + 1);
            token.logout(1);
            Due.is("the other after logout", token.login(1, role == 0, role == 0 ? 9999 : 1111), 0);
        }
    }

    private static void loginBesideReadOnly() {
        Due.sentence("READ_ONLY when it is the officer and an open session is read-only");
        for (int modes = 0; modes < 8; modes++) {
            for (int s = 0; s < 3; s++) {
                HandleToken token = new HandleToken(1, 2);
                for (int i = 0; i < 3; i++) {
                    token.open((modes & 1 << i) != 0);
                }
                Due.is("the officer in " + s + " of " + modes, token.login(s, true, 2),
                    modes == 7 ? 0 : HandleToken.READ_ONLY);
                Due.is("the user then", token.login(s, false, 1), modes == 7 ? HandleToken.LOGIN : 0);
            }
        }
        HandleToken token = World.nobody();
        Due.is("a read-only one is open", token.login(0, true, Due.OFFICER_PIN), HandleToken.READ_ONLY);
        token.close(World.READS);
        Due.is("it is not open any more", token.login(0, true, Due.OFFICER_PIN), 0);
    }

    private static void loginLocked() {
        Due.sentence("LOCKED when it has three failures; PIN when the PIN is not the right one,"
            + " and it has one failure more then");
        for (int role = 0; role < 2; role++) {
            boolean officer = role == 1;
            int right = officer ? Due.OFFICER_PIN : Due.USER_PIN;
            HandleToken token = Due.opened();
            for (int i = 1; i <= 3; i++) {
                Due.is("wrong " + i, token.login(0, officer, right - i), HandleToken.PIN);
                Due.is("failures", token.status(2 + role), i);
                Due.is("the other's", token.status(3 - role), 0);
            }
            Due.sentence("with three the right PIN, too, is LOCKED");
            Due.is("right", token.login(0, officer, right), HandleToken.LOCKED);
            Due.is("wrong", token.login(0, officer, right + 1), HandleToken.LOCKED);
            Due.is("no fourth", token.status(2 + role), 3);
            Due.is("nobody", token.status(0), 0);
            token.close(0);
            token.open(true);
            Due.is("after close", token.login(0, officer, right), HandleToken.LOCKED);
            int others = officer ? Due.USER_PIN : Due.OFFICER_PIN;
            Due.is("the other is not locked", token.login(0, !officer, others), 0);
            token.logout(0);
            Due.is("after the other's logout", token.login(0, officer, right), HandleToken.LOCKED);
        }
    }

    private static void loginNoOtherRefusalCounts() {
        Due.sentence("(no other refusal counts one; with three the right PIN, too, is LOCKED)");
        HandleToken token = World.nobody();
        for (int k = 0; k < 4; k++) {
            token.login(World.CLOSED, false, 5);
            token.login(World.CLOSED, true, 5);
            token.login(0, true, 5);
        }
        Due.is("SESSION counts none", token.status(2), 0);
        Due.is("READ_ONLY counts none", token.status(3), 0);
        token.login(0, false, Due.USER_PIN);
        for (int k = 0; k < 4; k++) {
            token.login(0, false, 5);
            token.login(0, true, 5);
        }
        Due.is("LOGIN counts none of the user", token.status(2), 0);
        Due.is("LOGIN counts none of the officer", token.status(3), 0);
        token.close(World.READS);
        token.logout(0);
        Due.is("neither is locked", token.login(0, true, Due.OFFICER_PIN), 0);
        HandleToken locked = World.failed(World.nobody(), false, 9);
        Due.is("LOCKED counts none", locked.status(2), 3);
    }

    private static void logoutOfAllSessions() {
        Due.sentence("All session objects (of all sessions) that are PRIVATE are destroyed (TOKEN objects stay).");
        int[] kinds = {0, Due.PRIVATE, Due.TOKEN, Due.TOKEN | Due.PRIVATE};
        for (int from = 0; from < 3; from++) {
            HandleToken token = Due.withUser();
            token.open(true);
            token.open(true);
            for (int h = 1; h <= 10; h++) {
                token.create(h % 3, kinds[h % 4], h);
            }
            Due.is("logout in " + from, token.logout(from), 0);
            token.login(from, false, Due.USER_PIN);
            for (int h = 1; h <= 10; h++) {
                boolean gone = kinds[h % 4] == Due.PRIVATE;
                Due.is("key " + h, token.read(from, h), gone ? HandleToken.HANDLE : h);
            }
            Due.is("exist", token.status(4), 7);
            Due.is("the next handle", token.create(from, Due.PRIVATE, 5), 11);
        }
        HandleToken full = Due.withUser();
        Due.fill(full, 0, Due.PRIVATE, 10);
        Due.is("all ten", full.logout(0), 0);
        Due.is("none left", full.status(4), 0);
    }

    private static void logoutAndNobody() {
        Due.sentence("Nobody is logged in any more: 0.");
        HandleToken token = World.user();
        Due.is("the user", token.logout(World.READS), 0);
        Due.is("nobody", token.status(0), 0);
        Due.is("hidden now", token.attributes(0, World.HIDDEN), HandleToken.HANDLE);
        Due.is("twice", token.logout(World.READS), HandleToken.LOGIN);
        Due.is("the sessions stay", token.status(1), 3 + 8);
        HandleToken officer = World.officer();
        Due.is("the officer", officer.logout(1), 0);
        Due.is("nobody either", officer.status(0), 0);
        Due.is("all keys stay", officer.status(4), World.COUNT);
    }

    private static void unlockAnotherOrTheSame() {
        Due.sentence("The officer gives the user another PIN (or the same): 0, and the user's failures are 0.");
        int[] pins = {0, -1, Integer.MAX_VALUE, Integer.MIN_VALUE, Due.USER_PIN, Due.OFFICER_PIN};
        for (int pin : pins) {
            HandleToken token = Due.withOfficer();
            Due.is("unlock " + pin, token.unlock(0, pin), 0);
            Due.is("the officer stays", token.status(0), 2);
            token.logout(0);
            int old = token.login(0, false, Due.USER_PIN);
            Due.is("the old one", old, pin == Due.USER_PIN ? 0 : HandleToken.PIN);
            token.logout(0);
            Due.is("the new one", token.login(0, false, pin), 0);
            token.logout(0);
            Due.is("the officer's is as it was", token.login(0, true, Due.OFFICER_PIN), 0);
        }
    }

    private static void unlockWhateverTheFailures() {
        Due.sentence("The officer gives the user another PIN (or the same): 0, and the user's failures are 0.");
        for (int times = 0; times <= 3; times++) {
            HandleToken token = World.failed(Due.opened(), false, times);
            token.login(0, true, Due.OFFICER_PIN);
            Due.is("failures before", token.status(2), times);
            Due.is("unlock after " + times, token.unlock(0, Due.USER_PIN), 0);
            Due.is("failures then", token.status(2), 0);
            token.logout(0);
            World.failed(token, false, 2);
            Due.is("not locked by two more", token.login(0, false, Due.USER_PIN), 0);
        }
    }

    private static void statusWho() {
        Due.sentence("0: who is logged in (0 nobody, 1 the user, 2 the officer).");
        Due.is("no session", new HandleToken(1, 2).status(0), 0);
        Due.is("nobody", World.nobody().status(0), 0);
        Due.is("the user", World.user().status(0), 1);
        Due.is("the officer", World.officer().status(0), 2);
    }

    private static void statusSessions() {
        Due.sentence("1: the sum of 1 << s over the open sessions and of 8 << s over the read-write ones.");
        for (int modes = 0; modes < 27; modes++) {
            HandleToken token = new HandleToken(1, 2);
            int[] mode = {modes % 3, modes / 3 % 3, modes / 9};
            int due = 0;
            for (int s = 0; s < 3; s++) {
                token.open(mode[s] == 2);
                due += mode[s] == 0 ? 0 : 1 << s;
                due += mode[s] == 2 ? 8 << s : 0;
            }
            for (int s = 0; s < 3; s++) {
                if (mode[s] == 0) {
                    token.close(s);
                }
            }
            Due.is("modes " + modes, token.status(1), due);
        }
    }

    private static void statusFailures() {
        Due.sentence("2 and 3: the failures of the user and of the officer.");
        for (int user = 0; user <= 3; user++) {
            for (int officer = 0; officer <= 3; officer++) {
                HandleToken token = World.failed(World.failed(Due.opened(), false, user), true, officer);
                Due.is("the user's", token.status(2), user);
                Due.is("the officer's", token.status(3), officer);
            }
        }
    }

    private static void statusObjects() {
        Due.sentence("4: how many objects exist, 5: how many were made in all.");
        HandleToken token = World.full(World.nobody());
        Due.is("ten, the hidden ones, too", token.status(4), 10);
        Due.is("ten in all", token.status(5), 10);
        token.create(0, 0, 1);
        Due.is("a refused one is not made", token.status(5), 10);
        token.destroy(0, World.PLAIN);
        Due.is("one fewer", token.status(4), 9);
        Due.is("in all as before", token.status(5), 10);
        token.close(0);
        Due.is("those of the token", token.status(4), 4);
        token.close(1);
        Due.is("without a session, too", token.status(4), 4);
        Due.is("in all", token.status(5), 10);
    }

    private static void statusAnother() {
        Due.sentence("Another what: -1.");
        int[] others = {-1, 6, 7, 8, -2, 256, 65536, Integer.MAX_VALUE, Integer.MIN_VALUE};
        for (int what : others) {
            Due.is("status " + what, World.user().status(what), -1);
            Due.is("new status " + what, new HandleToken(1, 2).status(what), -1);
        }
    }
}

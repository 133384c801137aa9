import java.util.function.Supplier;

/**
 * Promises 7 (create), 8 (generate) and 18 (unwrap): each refusal alone and each two that can fit
 * at the same time, in the order of the document's list; no refused call changes anything.
 */
public final class MakingRefusalsTest {
    /** A call that makes a key in session s with the attributes given. */
    private interface Making {
        long make(HandleToken token, int s, int given);
    }

    // Not good each for one reason alone, and neither PRIVATE nor TOKEN.
    private static final int[] BAD = {512, 1024, 4096, 1 << 30, Integer.MIN_VALUE, 128 + 32, 256 + 16};
    private static final long BLOB = Words.blob(World.KEY, 9);
    private static final long NO_BLOB = BLOB ^ 1L << 40;
    private static final Supplier<HandleToken> FULL = () -> World.full(World.nobody());

    public static void main(String[] args) {
        Due.sentence("Of several that fit (whatever order a call names them in), the one that stands first");
        making("create", (t, s, given) -> t.create(s, given, 9));
        making("generate", (t, s, given) -> t.generate(s, given));
        making("unwrap", (t, s, given) -> t.unwrap(s, World.UNWRAPS, BLOB, given));
        making("unwrap, BLOB", (t, s, given) -> t.unwrap(s, World.UNWRAPS, NO_BLOB, given));
        unwrapHandle();
        unwrapAttributes();
        unwrapBlob();
        Due.end();
    }

    private static void making(String name, Making call) {
        session(name, call);
        login(name, call);
        readOnly(name, call);
        attributes(name, call);
        Refused.is(name + ": FULL", FULL, t -> call.make(t, World.WRITES, 0), HandleToken.FULL);
        Refused.is(name + ": FULL, read-only", FULL, t -> call.make(t, World.READS, 0), HandleToken.FULL);
        Refused.is(name + ": FULL, TOKEN", FULL, t -> call.make(t, World.WRITES, Due.TOKEN), HandleToken.FULL);
        Refused.is(name + ": FULL, PRIVATE", () -> World.full(World.user()),
            t -> call.make(t, World.READS, Due.PRIVATE), HandleToken.FULL);
    }

    private static void session(String name, Making call) {
        int none = World.CLOSED;
        for (int s : World.NO_SESSIONS) {
            Refused.is(name + ": SESSION " + s, World::nobody, t -> call.make(t, s, 0), HandleToken.SESSION);
        }
        Refused.is(name + ": SESSION, TOKEN", World::nobody, t -> call.make(t, none, Due.TOKEN), HandleToken.SESSION);
        Refused.is(name + ": SESSION and LOGIN", World::nobody,
            t -> call.make(t, none, Due.PRIVATE), HandleToken.SESSION);
        Refused.is(name + ": SESSION and ATTRIBUTES", World::nobody, t -> call.make(t, none, 512), HandleToken.SESSION);
        Refused.is(name + ": SESSION and FULL", FULL, t -> call.make(t, none, 0), HandleToken.SESSION);
        Refused.is(name + ": SESSION and all others", FULL, t -> call.make(t, none, -1), HandleToken.SESSION);
    }

    private static void login(String name, Making call) {
        Refused.is(name + ": LOGIN, nobody", World::nobody, t -> call.make(t, 0, Due.PRIVATE), HandleToken.LOGIN);
        Refused.is(name + ": LOGIN, the officer", World::officer, t -> call.make(t, 0, Due.PRIVATE), HandleToken.LOGIN);
        Refused.is(name + ": LOGIN, TOKEN", World::officer, t -> call.make(t, 0, 3), HandleToken.LOGIN);
        Refused.is(name + ": LOGIN and READ_ONLY", World::nobody,
            t -> call.make(t, World.READS, 3), HandleToken.LOGIN);
        for (int bad : BAD) {
            String what = name + ": LOGIN and ATTRIBUTES " + bad;
            Refused.is(what, World::nobody, t -> call.make(t, 0, bad | Due.PRIVATE), HandleToken.LOGIN);
            Refused.is(what + ", the officer", World::officer, t -> call.make(t, 0, bad | Due.PRIVATE),
                HandleToken.LOGIN);
        }
        Refused.is(name + ": LOGIN and FULL", FULL, t -> call.make(t, 0, Due.PRIVATE), HandleToken.LOGIN);
        Refused.is(name + ": LOGIN and FULL, the officer", () -> World.full(World.officer()),
            t -> call.make(t, 0, Due.PRIVATE), HandleToken.LOGIN);
        Refused.is(name + ": LOGIN and all below", FULL, t -> call.make(t, World.READS, -1), HandleToken.LOGIN);
    }

    private static void readOnly(String name, Making call) {
        int reads = World.READS;
        Refused.is(name + ": READ_ONLY, nobody", World::nobody,
            t -> call.make(t, reads, Due.TOKEN), HandleToken.READ_ONLY);
        Refused.is(name + ": READ_ONLY, the user", World::user, t -> call.make(t, reads, 3), HandleToken.READ_ONLY);
        for (int bad : BAD) {
            Refused.is(name + ": READ_ONLY and ATTRIBUTES " + bad, World::nobody,
                t -> call.make(t, reads, bad | Due.TOKEN), HandleToken.READ_ONLY);
        }
        Refused.is(name + ": READ_ONLY and ATTRIBUTES -1, the user", World::user,
            t -> call.make(t, reads, -1), HandleToken.READ_ONLY);
        Refused.is(name + ": READ_ONLY and FULL", FULL, t -> call.make(t, reads, Due.TOKEN), HandleToken.READ_ONLY);
        Refused.is(name + ": READ_ONLY and all below", FULL, t -> call.make(t, reads, 513), HandleToken.READ_ONLY);
    }

    private static void attributes(String name, Making call) {
        for (int bad : BAD) {
            String what = name + ": ATTRIBUTES " + bad;
            Refused.is(what, World::nobody, t -> call.make(t, 0, bad), HandleToken.ATTRIBUTES);
            Refused.is(what + ", read-only", World::nobody, t -> call.make(t, World.READS, bad), HandleToken.ATTRIBUTES);
            Refused.is(what + ", TOKEN", World::officer, t -> call.make(t, 0, bad | Due.TOKEN), HandleToken.ATTRIBUTES);
            Refused.is(what + ", PRIVATE", World::user, t -> call.make(t, 0, bad | 3), HandleToken.ATTRIBUTES);
            Refused.is(what + " and FULL", FULL, t -> call.make(t, 0, bad), HandleToken.ATTRIBUTES);
        }
    }

    private static void unwrapHandle() {
        int reads = World.READS;
        for (int by : World.NO_HANDLES) {
            Refused.is("unwrap: HANDLE " + by, World::nobody, t -> t.unwrap(0, by, BLOB, 0), HandleToken.HANDLE);
        }
        int by = World.HIDDEN_ABLE;
        Refused.is("unwrap: HANDLE, hidden", World::nobody, t -> t.unwrap(0, by, BLOB, 0), HandleToken.HANDLE);
        Refused.is("unwrap: HANDLE, the officer", World::officer, t -> t.unwrap(0, by, BLOB, 0), HandleToken.HANDLE);
        Refused.is("unwrap: SESSION and HANDLE", World::nobody,
            t -> t.unwrap(World.CLOSED, 99, BLOB, 0), HandleToken.SESSION);
        Refused.is("unwrap: HANDLE and LOGIN", World::nobody, t -> t.unwrap(0, by, BLOB, 2), HandleToken.HANDLE);
        Refused.is("unwrap: HANDLE and LOGIN, the officer", World::officer,
            t -> t.unwrap(0, by, BLOB, 2), HandleToken.HANDLE);
        Refused.is("unwrap: HANDLE and READ_ONLY", World::nobody,
            t -> t.unwrap(reads, by, BLOB, 1), HandleToken.HANDLE);
        Refused.is("unwrap: HANDLE and ATTRIBUTES", World::nobody,
            t -> t.unwrap(0, by, BLOB, 512), HandleToken.HANDLE);
        Refused.is("unwrap: HANDLE and WRAP", World::nobody, t -> t.unwrap(0, by, BLOB, 128), HandleToken.HANDLE);
        Refused.is("unwrap: HANDLE and no UNWRAP", World::nobody,
            t -> t.unwrap(0, World.HIDDEN, BLOB, 0), HandleToken.HANDLE);
        Refused.is("unwrap: HANDLE and FULL", FULL, t -> t.unwrap(0, by, BLOB, 0), HandleToken.HANDLE);
        Refused.is("unwrap: HANDLE and BLOB", World::nobody, t -> t.unwrap(0, by, NO_BLOB, 0), HandleToken.HANDLE);
        Refused.is("unwrap: HANDLE and all below", FULL,
            t -> t.unwrap(reads, World.HIDDEN, NO_BLOB, -1), HandleToken.HANDLE);
    }

    /** The two reasons for ATTRIBUTES that unwrap has beside those of create. */
    private static void unwrapAttributes() {
        int[] by = {World.UNWRAPS, World.WRAPS, World.PLAIN};
        int[] given = {Due.WRAP, 0, Due.SIGN};
        for (int i = 0; i < by.length; i++) {
            int key = by[i];
            int bits = given[i];
            String what = "unwrap by " + key + " with " + bits + ": ";
            Refused.is(what + "ATTRIBUTES", World::nobody, t -> t.unwrap(0, key, BLOB, bits), HandleToken.ATTRIBUTES);
            Refused.is(what + "SESSION and ATTRIBUTES", World::nobody,
                t -> t.unwrap(World.CLOSED, key, BLOB, bits), HandleToken.SESSION);
            Refused.is(what + "LOGIN and ATTRIBUTES", World::nobody,
                t -> t.unwrap(0, key, BLOB, bits | Due.PRIVATE), HandleToken.LOGIN);
            Refused.is(what + "LOGIN and ATTRIBUTES, the officer", World::officer,
                t -> t.unwrap(0, key, BLOB, bits | Due.PRIVATE), HandleToken.LOGIN);
            Refused.is(what + "READ_ONLY and ATTRIBUTES", World::nobody,
                t -> t.unwrap(World.READS, key, BLOB, bits | Due.TOKEN), HandleToken.READ_ONLY);
            Refused.is(what + "ATTRIBUTES and FULL", FULL, t -> t.unwrap(0, key, BLOB, bits), HandleToken.ATTRIBUTES);
            Refused.is(what + "ATTRIBUTES and BLOB", World::nobody,
                t -> t.unwrap(0, key, NO_BLOB, bits), HandleToken.ATTRIBUTES);
        }
    }

    private static void unwrapBlob() {
        int by = World.UNWRAPS;
        Refused.is("unwrap: BLOB", World::nobody, t -> t.unwrap(0, by, NO_BLOB, 0), HandleToken.BLOB);
        Refused.is("unwrap: BLOB, read-only", World::nobody,
            t -> t.unwrap(World.READS, by, NO_BLOB, 0), HandleToken.BLOB);
        Refused.is("unwrap: BLOB, the user", World::user, t -> t.unwrap(0, by, NO_BLOB, 3), HandleToken.BLOB);
        Refused.is("unwrap: BLOB, another key", World::user,
            t -> t.unwrap(0, World.HIDDEN_ABLE, Words.blob(World.KEY + 1, 9), 0), HandleToken.BLOB);
    }
}

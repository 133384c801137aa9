/**
 * Promises 9 to 17 and 19: each refusal alone and each two that can fit at the same time, in the
 * order of the document's list; no refused call changes anything.
 */
public final class KeyRefusalsTest {
    /** A call on the key h in session s. */
    private interface OnKey {
        long call(HandleToken token, int s, int h);
    }

    public static void main(String[] args) {
        Due.sentence("Of several that fit (whatever order a call names them in), the one that stands first");
        everyCallOnAKey();
        destroy();
        limit();
        trust();
        read();
        uses();
        wrapHandles();
        wrapAttributes();
        find();
        Due.end();
    }

    private static void everyCallOnAKey() {
        sessionAndHandle("destroy", (t, s, h) -> t.destroy(s, h));
        sessionAndHandle("attributes", (t, s, h) -> t.attributes(s, h));
        sessionAndHandle("limit", (t, s, h) -> t.limit(s, h, Due.SIGN));
        sessionAndHandle("trust", (t, s, h) -> t.trust(s, h));
        sessionAndHandle("read", (t, s, h) -> t.read(s, h));
        sessionAndHandle("encrypt", (t, s, h) -> t.encrypt(s, h, 3));
        sessionAndHandle("decrypt", (t, s, h) -> t.decrypt(s, h, 3));
        sessionAndHandle("sign", (t, s, h) -> t.sign(s, h, 3));
        sessionAndHandle("wrap by", (t, s, h) -> t.wrap(s, h, World.ABLE));
        sessionAndHandle("wrap", (t, s, h) -> t.wrap(s, World.WRAPS, h));
        sessionAndHandle("wrap by itself", (t, s, h) -> t.wrap(s, h, h));
    }

    private static void sessionAndHandle(String name, OnKey call) {
        for (int s : World.NO_SESSIONS) {
            Refused.is(name + ": SESSION " + s, World::user, t -> call.call(t, s, World.ABLE), HandleToken.SESSION);
        }
        for (int h : World.NO_HANDLES) {
            Refused.is(name + ": HANDLE " + h, World::user, t -> call.call(t, 0, h), HandleToken.HANDLE);
        }
        int[] hidden = {World.HIDDEN, World.HIDDEN_ABLE};
        for (int h : hidden) {
            Refused.is(name + ": HANDLE, hidden " + h, World::nobody, t -> call.call(t, 0, h), HandleToken.HANDLE);
            Refused.is(name + ": HANDLE, hidden from the officer " + h, World::officer,
                t -> call.call(t, 0, h), HandleToken.HANDLE);
            Refused.is(name + ": HANDLE and READ_ONLY " + h, World::nobody,
                t -> call.call(t, World.READS, h), HandleToken.HANDLE);
            Refused.is(name + ": SESSION and HANDLE, hidden " + h, World::nobody,
                t -> call.call(t, World.CLOSED, h), HandleToken.SESSION);
        }
        Refused.is(name + ": SESSION and HANDLE", World::user, t -> call.call(t, World.CLOSED, 99), HandleToken.SESSION);
    }

    private static void destroy() {
        int[] ofToken = {World.WRAPS, World.UNWRAPS, World.HIDDEN};
        for (int h : ofToken) {
            Refused.is("destroy: READ_ONLY " + h, World::user, t -> t.destroy(World.READS, h), HandleToken.READ_ONLY);
        }
        Refused.is("destroy: READ_ONLY, nobody", World::nobody,
            t -> t.destroy(World.READS, World.WRAPS), HandleToken.READ_ONLY);
    }

    private static void limit() {
        int[] bad = {0, 1, 2, 3, 512, 1024, 2048, 4096, 8192, 1 << 30, Integer.MIN_VALUE, -1, 4 + 1, 64 + 512};
        for (int mask : bad) {
            String what = " and ATTRIBUTES of " + mask;
            Refused.is("limit: ATTRIBUTES of " + mask, World::nobody,
                t -> t.limit(0, World.ABLE, mask), HandleToken.ATTRIBUTES);
            Refused.is("limit: ATTRIBUTES, TOKEN, of " + mask, World::nobody,
                t -> t.limit(0, World.WRAPS, mask), HandleToken.ATTRIBUTES);
            Refused.is("limit: SESSION" + what, World::nobody,
                t -> t.limit(World.CLOSED, World.ABLE, mask), HandleToken.SESSION);
            Refused.is("limit: HANDLE" + what, World::nobody, t -> t.limit(0, 99, mask), HandleToken.HANDLE);
            Refused.is("limit: HANDLE, hidden," + what, World::nobody,
                t -> t.limit(0, World.HIDDEN_ABLE, mask), HandleToken.HANDLE);
            Refused.is("limit: READ_ONLY" + what, World::user,
                t -> t.limit(World.READS, World.WRAPS, mask), HandleToken.READ_ONLY);
        }
        Refused.is("limit: READ_ONLY", World::nobody,
            t -> t.limit(World.READS, World.WRAPS, Due.WRAP), HandleToken.READ_ONLY);
        Refused.is("limit: READ_ONLY, what it has not", World::nobody,
            t -> t.limit(World.READS, World.WRAPS, Due.SIGN), HandleToken.READ_ONLY);
    }

    private static void trust() {
        int[] notTrustable = {World.UNWRAPS, World.PLAIN, World.ABLE};
        for (int h : notTrustable) {
            Refused.is("trust: ATTRIBUTES " + h, World::officer, t -> t.trust(0, h), HandleToken.ATTRIBUTES);
            Refused.is("trust: LOGIN and ATTRIBUTES " + h, World::nobody, t -> t.trust(0, h), HandleToken.LOGIN);
            Refused.is("trust: LOGIN and ATTRIBUTES, the user " + h, World::user, t -> t.trust(0, h), HandleToken.LOGIN);
            Refused.is("trust: SESSION and ATTRIBUTES " + h, World::officer,
                t -> t.trust(World.CLOSED, h), HandleToken.SESSION);
        }
        Refused.is("trust: LOGIN, nobody", World::nobody, t -> t.trust(0, World.WRAPS), HandleToken.LOGIN);
        Refused.is("trust: LOGIN, the user", World::user, t -> t.trust(0, World.WRAPS), HandleToken.LOGIN);
        Refused.is("trust: LOGIN and READ_ONLY", World::user, t -> t.trust(World.READS, World.WRAPS), HandleToken.LOGIN);
        Refused.is("trust: LOGIN, READ_ONLY and ATTRIBUTES", World::user,
            t -> t.trust(World.READS, World.UNWRAPS), HandleToken.LOGIN);
        Refused.is("trust: SESSION and LOGIN", World::nobody,
            t -> t.trust(World.CLOSED, World.WRAPS), HandleToken.SESSION);
        Refused.is("trust: HANDLE and LOGIN", World::user, t -> t.trust(0, 99), HandleToken.HANDLE);
        Refused.is("trust: HANDLE, LOGIN, READ_ONLY and ATTRIBUTES", World::nobody,
            t -> t.trust(World.READS, World.HIDDEN), HandleToken.HANDLE);
    }

    private static void read() {
        Refused.is("read: ATTRIBUTES", World::nobody, t -> t.read(0, World.SECRET), HandleToken.ATTRIBUTES);
        Refused.is("read: ATTRIBUTES, read-only", World::nobody,
            t -> t.read(World.READS, World.SECRET), HandleToken.ATTRIBUTES);
        Refused.is("read: ATTRIBUTES, PRIVATE", World::user, t -> t.read(0, World.HIDDEN), HandleToken.ATTRIBUTES);
        Refused.is("read: SESSION and ATTRIBUTES", World::nobody,
            t -> t.read(World.CLOSED, World.SECRET), HandleToken.SESSION);
        Refused.is("read: HANDLE and ATTRIBUTES", World::officer, t -> t.read(0, World.HIDDEN), HandleToken.HANDLE);
    }

    private static void uses() {
        usesOf("encrypt", (t, s, h) -> t.encrypt(s, h, 3));
        usesOf("decrypt", (t, s, h) -> t.decrypt(s, h, 3));
        usesOf("sign", (t, s, h) -> t.sign(s, h, 3));
    }

    private static void usesOf(String name, OnKey call) {
        int[] useless = {World.WRAPS, World.UNWRAPS, World.PLAIN, World.SECRET};
        for (int h : useless) {
            Refused.is(name + ": ATTRIBUTES " + h, World::nobody, t -> call.call(t, 0, h), HandleToken.ATTRIBUTES);
            Refused.is(name + ": ATTRIBUTES, read-only " + h, World::user,
                t -> call.call(t, World.READS, h), HandleToken.ATTRIBUTES);
            Refused.is(name + ": SESSION and ATTRIBUTES " + h, World::nobody,
                t -> call.call(t, World.CLOSED, h), HandleToken.SESSION);
        }
        Refused.is(name + ": ATTRIBUTES, PRIVATE", World::user,
            t -> call.call(t, 0, World.HIDDEN), HandleToken.ATTRIBUTES);
        Refused.is(name + ": HANDLE and ATTRIBUTES", World::officer,
            t -> call.call(t, 0, World.HIDDEN), HandleToken.HANDLE);
    }

    private static void wrapHandles() {
        Due.sentence("SESSION; HANDLE (of either; they may be the same)");
        int[] gone = {0, 99, World.HIDDEN, World.HIDDEN_ABLE};
        for (int none : gone) {
            Refused.is("wrap: HANDLE of by " + none, World::nobody,
                t -> t.wrap(0, none, World.ABLE), HandleToken.HANDLE);
            Refused.is("wrap: HANDLE of h " + none, World::nobody,
                t -> t.wrap(0, World.WRAPS, none), HandleToken.HANDLE);
            Refused.is("wrap: HANDLE of both " + none, World::nobody, t -> t.wrap(0, none, none), HandleToken.HANDLE);
            Refused.is("wrap: HANDLE of by and ATTRIBUTES of h " + none, World::nobody,
                t -> t.wrap(0, none, World.PLAIN), HandleToken.HANDLE);
            Refused.is("wrap: HANDLE of h and no WRAP " + none, World::nobody,
                t -> t.wrap(0, World.PLAIN, none), HandleToken.HANDLE);
            Refused.is("wrap: HANDLE of h and not TRUSTED " + none, KeyRefusalsTest::withUntrusted,
                t -> t.wrap(0, World.COUNT + 1, none), HandleToken.HANDLE);
            Refused.is("wrap: SESSION and HANDLE of by " + none, World::nobody,
                t -> t.wrap(World.CLOSED, none, World.ABLE), HandleToken.SESSION);
            Refused.is("wrap: SESSION and HANDLE of h " + none, World::nobody,
                t -> t.wrap(World.CLOSED, World.WRAPS, none), HandleToken.SESSION);
        }
    }

    private static HandleToken withUntrusted() {
        HandleToken token = World.nobody();
        token.create(0, Due.TOKEN | Due.WRAP, World.KEY);
        return token;
    }

    private static void wrapAttributes() {
        Due.sentence("ATTRIBUTES when by may not WRAP or is not TRUSTED, or h is not EXTRACTABLE.");
        Refused.is("wrap: no WRAP, not TRUSTED", World::nobody,
            t -> t.wrap(0, World.UNWRAPS, World.ABLE), HandleToken.ATTRIBUTES);
        Refused.is("wrap: not TRUSTED", KeyRefusalsTest::withUntrusted,
            t -> t.wrap(0, World.COUNT + 1, World.ABLE), HandleToken.ATTRIBUTES);
        Refused.is("wrap: TRUSTED, no WRAP", KeyRefusalsTest::withoutWrap,
            t -> t.wrap(0, World.WRAPS, World.ABLE), HandleToken.ATTRIBUTES);
        Refused.is("wrap: not EXTRACTABLE", World::nobody,
            t -> t.wrap(0, World.WRAPS, World.PLAIN), HandleToken.ATTRIBUTES);
        Refused.is("wrap: neither may", World::nobody,
            t -> t.wrap(0, World.UNWRAPS, World.PLAIN), HandleToken.ATTRIBUTES);
        Refused.is("wrap: SESSION and ATTRIBUTES of by", World::nobody,
            t -> t.wrap(World.CLOSED, World.UNWRAPS, World.ABLE), HandleToken.SESSION);
        Refused.is("wrap: SESSION and ATTRIBUTES of h", World::nobody,
            t -> t.wrap(World.CLOSED, World.WRAPS, World.PLAIN), HandleToken.SESSION);
    }

    private static HandleToken withoutWrap() {
        HandleToken token = World.nobody();
        token.limit(0, World.WRAPS, Due.WRAP);
        return token;
    }

    private static void find() {
        Due.sentence("0 when there are not so many or k is below 0. SESSION.");
        int[] wanted = {0, 2, 7, -1, 99};
        for (int s : World.NO_SESSIONS) {
            for (int k : wanted) {
                Refused.is("find " + k + ": SESSION " + s, World::user, t -> t.find(s, k), HandleToken.SESSION);
            }
        }
    }
}

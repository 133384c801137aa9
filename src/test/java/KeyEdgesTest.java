/** Promises 7 to 13 and 19: a test for each of their sentences that names an edge. */
public final class KeyEdgesTest {
    private static final int ALL_TAKEN = 508;

    public static void main(String[] args) {
        createWithThese();
        createOwnedBySession();
        createPrivate();
        createReadOnly();
        generateValues();
        generateCountsDestroyedOnes();
        generateCountsNoOthers();
        generateAttributes();
        generateRefusedDoesNotCount();
        destroyAnyOne();
        destroyTwice();
        destroyReadOnly();
        attributesOfAnObject();
        limitSensitive();
        limitTakesAway();
        limitTakesNothingElse();
        limitWhatItHasNot();
        limitOtherBits();
        limitAlwaysAndNever();
        limitReadOnly();
        trustAlsoWhenItIsSo();
        trustByTheOfficer();
        trustWhat();
        readTheValue();
        readSensitive();
        findByAscendingHandles();
        findNotSoMany();
        Due.end();
    }

    private static void createWithThese() {
        Due.sentence("Makes an object with these attributes and this value,"
            + " owned by session s if it is a session object: its handle.");
        int[] values = {0, 1, -1, Integer.MAX_VALUE, Integer.MIN_VALUE};
        int[] given = {0, 3, 8 + 64, 463 - 4, 128};
        HandleToken token = Due.withUser();
        for (int i = 0; i < values.length; i++) {
            Due.is("create", token.create(0, given[i], values[i]), i + 1);
        }
        for (int i = 0; i < values.length; i++) {
            Due.is("its value", token.read(0, i + 1), Words.unsigned(values[i]));
            Due.is("its attributes", token.attributes(0, i + 1), given[i]);
        }
        Due.is("the same again is another", token.create(0, 0, 0), 6);
    }

    private static void createOwnedBySession() {
        Due.sentence("Makes an object with these attributes and this value,"
            + " owned by session s if it is a session object: its handle.");
        for (int owner = 0; owner < 3; owner++) {
            HandleToken token = new HandleToken(1, 2);
            for (int i = 0; i < 3; i++) {
                token.open(true);
            }
            token.create(owner, 0, 5);
            token.generate(owner, 0);
            token.create(owner, Due.TOKEN, 5);
            token.create(owner, Due.TOKEN | Due.UNWRAP, World.KEY);
            token.unwrap(owner, 4, Words.blob(World.KEY, 9), 0);
            for (int s = 0; s < 3; s++) {
                if (s != owner) {
                    token.close(s);
                }
            }
            Due.is("the others do not own it", token.status(4), 5);
            token.close(owner);
            Due.is("only the TOKEN objects stay", token.status(4), 2);
        }
    }

    private static void createPrivate() {
        Due.sentence("LOGIN when it would be PRIVATE and the user is not logged in");
        Due.is("nobody", World.nobody().create(0, Due.PRIVATE, 1), HandleToken.LOGIN);
        Due.is("the officer", World.officer().create(0, Due.PRIVATE, 1), HandleToken.LOGIN);
        Due.is("the user", World.user().create(0, Due.PRIVATE, 1), World.COUNT + 1);
        Due.is("nobody, not PRIVATE", World.nobody().create(0, 1, 1), World.COUNT + 1);
        Due.is("the officer, not PRIVATE", World.officer().create(0, 1, 1), World.COUNT + 1);
        Due.is("nobody generates", World.nobody().generate(0, Due.PRIVATE), HandleToken.LOGIN);
        Due.is("the officer generates", World.officer().generate(0, Due.PRIVATE), HandleToken.LOGIN);
        Due.is("the user generates", World.user().generate(0, Due.PRIVATE), World.COUNT + 1);
    }

    private static void createReadOnly() {
        Due.sentence("READ_ONLY: a TOKEN object (no session object) would be made, destroyed or changed"
            + " in a read-only session");
        Due.is("TOKEN, read-only", World.user().create(World.READS, Due.TOKEN, 1), HandleToken.READ_ONLY);
        Due.is("TOKEN, read-write", World.user().create(World.WRITES, Due.TOKEN, 1), World.COUNT + 1);
        Due.is("session object, read-only", World.user().create(World.READS, Due.PRIVATE, 1), World.COUNT + 1);
        Due.is("generate TOKEN, read-only", World.user().generate(World.READS, Due.TOKEN), HandleToken.READ_ONLY);
        Due.is("generate TOKEN, read-write", World.user().generate(World.WRITES, Due.TOKEN), World.COUNT + 1);
        Due.is("generate session object", World.user().generate(World.READS, 0), World.COUNT + 1);
    }

    private static void generateValues() {
        Due.sentence("As create, with the value MAC(n, 1234567), n being how many objects were generated on the token"
            + " before (0, 1, .., destroyed ones, too)");
        long[] known = {3656189786L, 879227435L, 1745747408L};
        HandleToken token = Due.opened();
        for (int n = 0; n < 10; n++) {
            int h = token.generate(0, n % 2 == 0 ? 0 : Due.TOKEN);
            Due.is("value " + n, token.read(0, h), Words.unsigned(Words.mac(n, 1234567)));
        }
        for (int n = 0; n < known.length; n++) {
            Due.is("known value " + n, token.read(0, n + 1), known[n]);
        }
    }

    private static void generateCountsDestroyedOnes() {
        Due.sentence("As create, with the value MAC(n, 1234567), n being how many objects were generated on the token"
            + " before (0, 1, .., destroyed ones, too)");
        HandleToken token = Due.withUser();
        token.generate(0, 0);
        token.destroy(0, 1);
        Due.is("one destroyed", token.read(0, token.generate(0, Due.PRIVATE)), 879227435L);
        token.logout(0);
        Due.is("one by logout", token.read(0, token.generate(0, 0)), 1745747408L);
        token.close(0);
        token.open(true);
        Due.is("one by close", token.read(0, token.generate(0, 0)), Words.unsigned(Words.mac(3, 1234567)));
    }

    private static void generateCountsNoOthers() {
        Due.sentence("n being how many objects were generated on the token before");
        HandleToken token = Due.opened();
        token.create(0, Due.UNWRAP, World.KEY);
        token.create(0, 0, 5);
        token.unwrap(0, 1, Words.blob(World.KEY, 9), 0);
        Due.is("neither created nor unwrapped ones", token.read(0, token.generate(0, 0)), 3656189786L);
    }

    private static void generateAttributes() {
        Due.sentence("and with LOCAL, with ALWAYS when SENSITIVE is given, and with NEVER when EXTRACTABLE is not given.");
        for (int given = 0; given <= 511; given++) {
            boolean good = (given & 160) != 160 && (given & 272) != 272;
            HandleToken token = Due.withUser();
            Due.is("generate " + given, token.generate(0, given), good ? 1 : HandleToken.ATTRIBUTES);
            int due = given + 1024 + (given / 4 % 2 == 1 ? 2048 : 0) + (given / 8 % 2 == 0 ? 4096 : 0);
            Due.is("attributes of " + given, token.attributes(0, 1), good ? due : HandleToken.HANDLE);
        }
    }

    private static void generateRefusedDoesNotCount() {
        Due.sentence("A refused call does not count.");
        HandleToken token = Due.opened();
        token.open(false);
        token.generate(2, 0);
        token.generate(0, Due.PRIVATE);
        token.generate(1, Due.TOKEN);
        token.generate(0, 512);
        token.generate(0, 160);
        token.generate(0, -1);
        Due.fill(token, 0, 0, 10);
        token.generate(0, 0);
        token.destroy(0, 10);
        Due.is("the first that counts", token.read(0, token.generate(0, 0)), 3656189786L);
    }

    private static void destroyAnyOne() {
        Due.sentence("Destroys an object: 0.");
        for (int gone = 1; gone <= 10; gone++) {
            HandleToken token = Due.opened();
            for (int h = 1; h <= 10; h++) {
                token.create(0, h % 2 == 0 ? Due.TOKEN : Due.SIGN, 100 + h);
            }
            Due.is("destroy " + gone, token.destroy(0, gone), 0);
            for (int h = 1; h <= 10; h++) {
                int kind = h % 2 == 0 ? Due.TOKEN : Due.SIGN;
                Due.is("value of " + h, token.read(0, h), h == gone ? HandleToken.HANDLE : 100 + h);
                Due.is("attributes of " + h, token.attributes(0, h), h == gone ? HandleToken.HANDLE : kind);
            }
            Due.is("exist", token.status(4), 9);
            token.close(0);
            Due.is("owners are as they were", token.status(4), gone % 2 == 0 ? 4 : 5);
        }
    }

    private static void destroyTwice() {
        Due.sentence("HANDLE: a handle is not that of an object that exists and is visible.");
        HandleToken token = Due.opened();
        Due.is("none was made", token.destroy(0, 1), HandleToken.HANDLE);
        token.create(0, 0, 1);
        Due.is("not yet made", token.destroy(0, 2), HandleToken.HANDLE);
        Due.is("made", token.destroy(0, 1), 0);
        Due.is("destroyed", token.destroy(0, 1), HandleToken.HANDLE);
        token.create(0, 0, 1);
        Due.is("the old one still", token.destroy(0, 1), HandleToken.HANDLE);
        Due.is("the new one", token.destroy(0, 2), 0);
        Due.is("none is left", token.status(4), 0);
    }

    private static void destroyReadOnly() {
        Due.sentence("READ_ONLY: a TOKEN object (no session object) would be made, destroyed or changed"
            + " in a read-only session");
        HandleToken token = World.user();
        Due.is("TOKEN, read-only", token.destroy(World.READS, World.WRAPS), HandleToken.READ_ONLY);
        Due.is("PRIVATE TOKEN, read-only", token.destroy(World.READS, World.HIDDEN), HandleToken.READ_ONLY);
        Due.is("another session's object, read-only", token.destroy(World.READS, World.PLAIN), 0);
        Due.is("TOKEN, read-write", token.destroy(World.WRITES, World.WRAPS), 0);
        Due.is("PRIVATE TOKEN, read-write", token.destroy(World.WRITES, World.HIDDEN), 0);
        Due.is("left", token.status(4), World.COUNT - 3);
    }

    private static void attributesOfAnObject() {
        Due.sentence("The attributes of an object. SESSION; HANDLE.");
        HandleToken token = World.user();
        int[] due = {1 + 8 + 128 + 512, 1 + 256, 1 + 2 + 4, 1 + 2 + 8 + 32 + 64 + 256, 0, 8 + 16 + 32 + 64,
            4 + 1024 + 2048 + 4096};
        for (int s = 0; s < 2; s++) {
            for (int h = 0; h <= due.length + 1; h++) {
                boolean is = h >= 1 && h <= due.length;
                Due.is("of " + h + " in " + s, token.attributes(s, h), is ? due[h - 1] : HandleToken.HANDLE);
            }
        }
    }

    private static void limitSensitive() {
        Due.sentence("Makes an object SENSITIVE if mask has the bit 4");
        HandleToken token = World.nobody();
        int before = token.attributes(0, World.ABLE);
        Due.is("not by another bit", token.limit(0, World.ABLE, Due.WRAP), before);
        Due.is("by 4", token.limit(0, World.ABLE, 4), before + 4);
        Due.is("by 4 again", token.limit(0, World.ABLE, 4), before + 4);
        Due.is("not taken away", token.limit(0, World.ABLE, 8), before + 4 - 8);
        Due.is("never read again", token.read(0, World.ABLE), HandleToken.ATTRIBUTES);
        Due.is("4 with others", token.limit(0, World.PLAIN, 4 + 16), 4);
    }

    private static void limitTakesAway() {
        Due.sentence("and takes the attribute EXTRACTABLE and those uses away whose bits mask has"
            + " (what it has not is no refusal): the attributes then.");
        int[] kinds = {8 + 16 + 32 + 64, 8 + 128 + 256 + 64, 8 + 16 + 128, 8 + 32 + 256};
        for (int kind : kinds) {
            for (int mask = 4; mask <= ALL_TAKEN; mask += 4) {
                HandleToken token = Due.opened();
                token.create(0, kind, 5);
                int due = kind - (kind & mask) + (mask / 4 % 2 == 1 ? 4 : 0);
                Due.is(kind + " limited by " + mask, token.limit(0, 1, mask), due);
                Due.is(kind + " after " + mask, token.attributes(0, 1), due);
            }
        }
    }

    private static void limitTakesNothingElse() {
        Due.sentence("and takes the attribute EXTRACTABLE and those uses away whose bits mask has");
        int stay = Due.TOKEN | Due.PRIVATE | Due.SENSITIVE | Due.LOCAL | Due.ALWAYS | Due.NEVER;
        HandleToken token = Due.withUser();
        token.generate(0, Due.TOKEN | Due.PRIVATE | Due.SENSITIVE | Due.WRAP | Due.UNWRAP);
        Due.is("PRIVATE, too, stays", token.limit(0, 1, ALL_TAKEN), stay);
        for (int mask = 4; mask <= ALL_TAKEN; mask += 4) {
            HandleToken officers = World.officer();
            officers.limit(0, World.WRAPS, mask);
            int left = officers.attributes(0, World.WRAPS) & (Due.TOKEN | Due.TRUSTED);
            Due.is("TRUSTED after " + mask, left, Due.TOKEN | Due.TRUSTED);
        }
    }

    private static void limitWhatItHasNot() {
        Due.sentence("(what it has not is no refusal)");
        HandleToken token = World.nobody();
        for (int bit = 8; bit <= 256; bit *= 2) {
            Due.is("bit " + bit, token.limit(0, World.PLAIN, bit), 0);
        }
        Due.is("all of them", token.limit(0, World.PLAIN, ALL_TAKEN - 4), 0);
        Due.is("one that it has, one that it has not", token.limit(0, World.ABLE, 16 + 128), 8 + 32 + 64);
    }

    private static void limitOtherBits() {
        Due.sentence("ATTRIBUTES when mask has another bit than 4, 8 and those of the uses, or is 0.");
        HandleToken token = World.nobody();
        int before = token.attributes(0, World.ABLE);
        Due.is("0", token.limit(0, World.ABLE, 0), HandleToken.ATTRIBUTES);
        for (int at = 0; at < 32; at++) {
            int bit = 1 << at;
            if ((bit & ALL_TAKEN) == 0) {
                Due.is("bit " + bit, token.limit(0, World.ABLE, bit), HandleToken.ATTRIBUTES);
                Due.is("bit " + bit + " and 4", token.limit(0, World.ABLE, bit | 4), HandleToken.ATTRIBUTES);
                Due.is("bit " + bit + " and all", token.limit(0, World.ABLE, bit | ALL_TAKEN), HandleToken.ATTRIBUTES);
            }
        }
        Due.is("unchanged", token.attributes(0, World.ABLE), before);
        Due.is("all that it may have", token.limit(0, World.ABLE, ALL_TAKEN), 4);
    }

    private static void limitAlwaysAndNever() {
        Due.sentence("(ALWAYS and NEVER stay as they are.)");
        for (int given = 0; given <= 12; given += 4) {
            HandleToken token = Due.opened();
            token.generate(0, given);
            int kept = token.attributes(0, 1) & (Due.LOCAL | Due.ALWAYS | Due.NEVER);
            Due.is("limited by 12 from " + given, token.limit(0, 1, 12), kept | 4);
            Due.is("by 508 from " + given, token.limit(0, 1, ALL_TAKEN), kept | 4);
            token.create(0, given, 5);
            Due.is("a created one from " + given, token.limit(0, 2, 12), 4);
        }
    }

    private static void limitReadOnly() {
        Due.sentence("READ_ONLY: a TOKEN object (no session object) would be made, destroyed or changed"
            + " in a read-only session");
        HandleToken token = World.user();
        Due.is("TOKEN, read-only", token.limit(World.READS, World.UNWRAPS, 4), HandleToken.READ_ONLY);
        Due.is("PRIVATE TOKEN, read-only", token.limit(World.READS, World.HIDDEN, 4), HandleToken.READ_ONLY);
        Due.is("another session's object, read-only", token.limit(World.READS, World.PLAIN, 4), 4);
        Due.is("TOKEN, read-write", token.limit(World.WRITES, World.UNWRAPS, 4), 1 + 256 + 4);
    }

    private static void trustAlsoWhenItIsSo() {
        Due.sentence("Makes an object TRUSTED: 0 (also when it is so).");
        HandleToken token = Due.withOfficer();
        token.create(0, Due.TOKEN | Due.WRAP, 1);
        for (int i = 0; i < 3; i++) {
            Due.is("trust " + i, token.trust(0, 1), 0);
            Due.is("attributes " + i, token.attributes(0, 1), Due.TOKEN | Due.WRAP | Due.TRUSTED);
        }
        token.generate(0, Due.TOKEN | Due.WRAP | Due.UNWRAP);
        Due.is("a generated one", token.trust(0, 2), 0);
        Due.is("its attributes", token.attributes(0, 2), 1 + 128 + 256 + 512 + 1024 + 4096);
        token.logout(0);
        Due.is("it stays so", token.attributes(0, 1), Due.TOKEN | Due.WRAP | Due.TRUSTED);
    }

    private static void trustByTheOfficer() {
        Due.sentence("LOGIN when the officer is not logged in; READ_ONLY; ATTRIBUTES");
        HandleToken token = Due.withUser();
        token.create(0, Due.TOKEN | Due.WRAP, 1);
        Due.is("the user", token.trust(0, 1), HandleToken.LOGIN);
        token.logout(0);
        Due.is("nobody", token.trust(0, 1), HandleToken.LOGIN);
        Due.is("not TRUSTED yet", token.attributes(0, 1), Due.TOKEN | Due.WRAP);
        token.login(0, true, Due.OFFICER_PIN);
        Due.is("the officer", token.trust(0, 1), 0);
        token.logout(0);
        Due.is("nobody, though it is so", token.trust(0, 1), HandleToken.LOGIN);
    }

    private static void trustWhat() {
        Due.sentence("ATTRIBUTES when it is no TOKEN object or may not WRAP.");
        for (int given = 0; given <= 511; given++) {
            boolean good = (given & 160) != 160 && (given & 272) != 272 && (given & Due.PRIVATE) == 0;
            if (good) {
                HandleToken token = Due.withOfficer();
                token.create(0, given, 1);
                boolean may = (given & 129) == 129;
                Due.is("trust " + given, token.trust(0, 1), may ? 0 : HandleToken.ATTRIBUTES);
                Due.is("then " + given, token.attributes(0, 1), may ? given + 512 : given);
            }
        }
        HandleToken token = Due.withOfficer();
        token.create(0, Due.TOKEN | Due.WRAP, 1);
        token.limit(0, 1, Due.WRAP);
        Due.is("it may not WRAP any more", token.trust(0, 1), HandleToken.ATTRIBUTES);
    }

    private static void readTheValue() {
        Due.sentence("The value of an object is answered.");
        HandleToken token = World.user();
        long[] due = {World.KEY, World.KEY, HandleToken.ATTRIBUTES, World.KEY, 505, 606, HandleToken.ATTRIBUTES};
        for (int s = 0; s < 2; s++) {
            for (int h = 1; h <= due.length; h++) {
                Due.is("read " + h + " in " + s, token.read(s, h), due[h - 1]);
            }
        }
        Due.is("-5 is no refusal", token.read(0, token.create(0, 0, -5)), 4294967291L);
        Due.is("-1 is none", token.read(0, token.create(0, 0, -1)), 4294967295L);
    }

    private static void readSensitive() {
        Due.sentence("ATTRIBUTES when it is SENSITIVE.");
        for (int given = 0; given <= 511; given++) {
            if ((given & 160) != 160 && (given & 272) != 272) {
                HandleToken token = Due.withUser();
                token.create(0, given, 5);
                Due.is("read " + given, token.read(0, 1), given / 4 % 2 == 1 ? HandleToken.ATTRIBUTES : 5);
            }
        }
        HandleToken token = World.nobody();
        token.limit(0, World.ABLE, 4);
        Due.is("made so later", token.read(0, World.ABLE), HandleToken.ATTRIBUTES);
    }

    private static void findByAscendingHandles() {
        Due.sentence("The handle of the k-th (from 0, by ascending handles) visible object");
        int[] all = {1, 2, 3, 4, 5, 6, 7};
        int[] visible = {1, 2, 5, 6, 7};
        found(World.user(), all);
        found(World.nobody(), visible);
        found(World.officer(), visible);
        HandleToken token = World.full(World.user());
        token.destroy(0, 1);
        token.destroy(0, 6);
        token.create(0, Due.PRIVATE, 1);
        token.create(1, 0, 1);
        found(token, new int[] {2, 3, 4, 5, 7, 8, 9, 10, 11, 12});
        token.logout(0);
        found(token, new int[] {2, 5, 7, 8, 9, 10, 12});
    }

    private static void found(HandleToken token, int[] due) {
        for (int s = 0; s < 2; s++) {
            for (int k = 0; k < due.length; k++) {
                Due.is("find " + k + " in " + s, token.find(s, k), due[k]);
            }
            Due.is("one more in " + s, token.find(s, due.length), 0);
        }
    }

    private static void findNotSoMany() {
        Due.sentence("0 when there are not so many or k is below 0.");
        int[] none = {-1, -2, 10, 11, Integer.MAX_VALUE, Integer.MIN_VALUE};
        HandleToken empty = Due.opened();
        HandleToken full = World.full(World.user());
        HandleToken hidden = Due.withUser();
        Due.fill(hidden, 0, 3, 10);
        hidden.logout(0);
        for (int k : none) {
            Due.is("find " + k + " of none", empty.find(0, k), 0);
            Due.is("find " + k + " of ten", full.find(0, k), 0);
            Due.is("find " + k + " of ten hidden", hidden.find(0, k), 0);
        }
        Due.is("the first of none", empty.find(0, 0), 0);
        Due.is("the first of ten hidden", hidden.find(0, 0), 0);
        Due.is("the last of ten", full.find(0, 9), 10);
    }
}

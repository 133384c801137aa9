import java.util.Random;

/** Promises 1 to 20 together: long mixed runs, each call answered by the token and by the model. */
public final class ModelTest {
    private static final int RUNS = 3000;
    private static final int CALLS = 512;
    private static final int[] EXTREMES = {
        Integer.MIN_VALUE, Integer.MAX_VALUE, -1, 31, 32, 33, 64, -32, 511, 512, 8191
    };

    private final Random random;
    private final HandleToken token;
    private final Model model;
    private final int run;
    private long lastBlob = 0;

    private ModelTest(int seed) {
        run = seed;
        random = new Random(seed);
        int userPin = random.nextInt(3);
        int officerPin = random.nextInt(3);
        token = new HandleToken(userPin, officerPin);
        model = new Model(userPin, officerPin);
    }

    public static void main(String[] args) {
        for (int seed = 1; seed <= RUNS; seed++) {
            ModelTest test = new ModelTest(seed);
            for (int i = 0; i < CALLS; i++) {
                test.step(i);
            }
        }
        Due.end();
    }

    private void step(int i) {
        int kind = random.nextInt(22);
        if (kind < 6) {
            roleStep(i, kind);
        } else if (kind < 13) {
            keyStep(i, kind);
        } else {
            useStep(i, kind);
        }
    }

    private void roleStep(int i, int kind) {
        int s = session();
        int pin = random.nextInt(3);
        boolean yes = random.nextBoolean();
        switch (kind) {
            case 0, 1 -> due(i, "open(" + yes + ")", token.open(yes), model.open(yes));
            case 2 -> {
                if (random.nextInt(3) == 0) {
                    due(i, "close(" + s + ")", token.close(s), model.close(s));
                }
            }
            case 3 -> due(i, "login(" + s + ", " + yes + ", " + pin + ")",
                token.login(s, yes, pin), model.login(s, yes, pin));
            case 4 -> due(i, "logout(" + s + ")", token.logout(s), model.logout(s));
            default -> due(i, "unlock(" + s + ", " + pin + ")", token.unlock(s, pin), model.unlock(s, pin));
        }
    }

    private void keyStep(int i, int kind) {
        int s = session();
        int h = handle();
        int given = given();
        int value = word();
        String key = "(" + s + ", " + h + ")";
        switch (kind) {
            case 6, 7 -> due(i, "create(" + s + ", " + given + ", " + value + ")",
                token.create(s, given, value), model.create(s, given, value));
            case 8 -> due(i, "generate(" + s + ", " + given + ")",
                token.generate(s, given), model.generate(s, given));
            case 9 -> due(i, "destroy" + key, token.destroy(s, h), model.destroy(s, h));
            case 10 -> due(i, "attributes" + key, token.attributes(s, h), model.attributes(s, h));
            case 11 -> {
                int mask = random.nextBoolean() ? 1 << random.nextInt(13) : given;
                due(i, "limit" + key + " by " + mask, token.limit(s, h, mask), model.limit(s, h, mask));
            }
            default -> due(i, "trust" + key, token.trust(s, h), model.trust(s, h));
        }
    }

    private void useStep(int i, int kind) {
        int s = session();
        int h = handle();
        int by = handle();
        int word = word();
        String key = "(" + s + ", " + h + ", " + word + ")";
        switch (kind) {
            case 13 -> due(i, "read" + key, token.read(s, h), model.read(s, h));
            case 14 -> due(i, "encrypt" + key, token.encrypt(s, h, word), model.encrypt(s, h, word));
            case 15 -> due(i, "decrypt" + key, token.decrypt(s, h, word), model.decrypt(s, h, word));
            case 16 -> due(i, "sign" + key, token.sign(s, h, word), model.sign(s, h, word));
            case 17 -> {
                long blob = model.wrap(s, by, h);
                due(i, "wrap(" + s + ", " + by + ", " + h + ")", token.wrap(s, by, h), blob);
                lastBlob = blob < 0 ? lastBlob : blob;
            }
            case 18, 19 -> {
                long blob = blobFor();
                int given = given();
                due(i, "unwrap(" + s + ", " + by + ", " + blob + ", " + given + ")",
                    token.unwrap(s, by, blob, given), model.unwrap(s, by, blob, given));
            }
            case 20 -> {
                int k = random.nextInt(13) - 1;
                due(i, "find(" + s + ", " + k + ")", token.find(s, k), model.find(s, k));
            }
            default -> {
                int what = random.nextInt(8) - 1;
                due(i, "status(" + what + ")", token.status(what), model.status(what));
            }
        }
    }

    private void due(int i, String call, long got, long want) {
        Due.is("run " + run + ", call " + i + ": " + call, got, want);
    }

    private int session() {
        return random.nextInt(30) == 0 ? extreme() : random.nextInt(3);
    }

    private int handle() {
        if (random.nextInt(30) == 0) {
            return extreme();
        }
        return random.nextInt(5) == 0 ? random.nextInt(model.status(5) + 2) : existing();
    }

    private int existing() {
        int count = model.status(4);
        int s = random.nextInt(3);
        return count == 0 ? 0 : Math.max(0, model.find(s, random.nextInt(count)));
    }

    private int given() {
        int choice = random.nextInt(20);
        if (choice == 0) {
            return extreme();
        }
        if (choice < 5) {
            return random.nextInt(1024);
        }
        if (choice < 9) {
            return Due.TOKEN | (random.nextBoolean() ? Due.WRAP : Due.UNWRAP) | random.nextInt(2) * Due.EXTRACTABLE;
        }
        return random.nextInt(512) & random.nextInt(512);
    }

    // Few values, so that often two keys have the same one and a blob of the one fits the other.
    private int word() {
        return random.nextInt(10) == 0 ? extreme() : random.nextInt(4) == 0 ? random.nextInt() : random.nextInt(2);
    }

    private long blobFor() {
        int choice = random.nextInt(6);
        if (choice == 0) {
            return random.nextLong();
        }
        if (choice == 1) {
            return lastBlob ^ 1L << random.nextInt(64);
        }
        return choice < 4 ? Words.blob(random.nextInt(2), word()) : lastBlob;
    }

    private int extreme() {
        return EXTREMES[random.nextInt(EXTREMES.length)];
    }
}

import java.util.function.Supplier;
import java.util.function.ToLongFunction;

/**
 * "A call that is refused answers a code below 0 and changes nothing": beside the answer, a twin of
 * the token that was not called must go on just as the one that was, whichever way it is used then.
 */
final class Refused {
    private static final int WAYS = 8;

    private Refused() {
    }

    static void is(String what, Supplier<HandleToken> state, ToLongFunction<HandleToken> call, int code) {
        for (int way = 0; way < WAYS; way++) {
            HandleToken called = state.get();
            HandleToken twin = state.get();
            Due.is(what, call.applyAsLong(called), code);
            Due.text(what + ", then way " + way, goneOn(called, way), goneOn(twin, way));
        }
    }

    /** A wrong PIN counts a failure and changes nothing else: the right PIN makes the twins alike again. */
    static void isPin(String what, Supplier<HandleToken> state, boolean officer, int wrongPin) {
        int right = officer ? Due.OFFICER_PIN : Due.USER_PIN;
        int failures = officer ? 3 : 2;
        for (int way = 0; way < WAYS; way++) {
            HandleToken called = state.get();
            HandleToken twin = state.get();
            Due.is(what, called.login(0, officer, wrongPin), HandleToken.PIN);
            Due.is(what + ": a failure more", called.status(failures), twin.status(failures) + 1);
            called.login(0, officer, right);
            twin.login(0, officer, right);
            Due.text(what + ", then way " + way, goneOn(called, way), goneOn(twin, way));
        }
    }

    /** All that can be seen while the token is used in one of several ways. */
    private static String goneOn(HandleToken token, int way) {
        StringBuilder seen = new StringBuilder();
        look(token, seen);
        switch (way) {
            case 0 -> makeKeys(token, seen);
            case 1 -> logInAs(token, false, seen);
            case 2 -> logInAs(token, true, seen);
            case 3 -> failToLogIn(token, false, seen);
            case 4 -> failToLogIn(token, true, seen);
            case 5 -> closeOneByOne(token, new int[] {0, 1, 2}, seen);
            case 6 -> closeOneByOne(token, new int[] {2, 1, 0}, seen);
            default -> openMore(token, seen);
        }
        return seen.toString();
    }

    private static void look(HandleToken token, StringBuilder seen) {
        for (int what = 0; what <= 5; what++) {
            seen.append(token.status(what)).append(' ');
        }
        int s = Integer.numberOfTrailingZeros(token.status(1) | 8);
        for (int k = 0; k <= 10; k++) {
            seen.append(token.find(s, k)).append(' ');
        }
        int made = token.status(5);
        for (int h = 1; h <= made + 1; h++) {
            seen.append(token.attributes(s, h)).append('/').append(token.read(s, h)).append('/');
            seen.append(token.sign(s, h, 5)).append('/').append(token.wrap(s, World.WRAPS, h)).append(' ');
        }
        seen.append('\n');
    }

    private static void makeKeys(HandleToken token, StringBuilder seen) {
        for (int s = 0; s < 3; s++) {
            seen.append(token.generate(s, Due.TOKEN)).append(' ');
            seen.append(token.generate(s, 0)).append(' ');
        }
        look(token, seen);
    }

    private static void logInAs(HandleToken token, boolean officer, StringBuilder seen) {
        seen.append(token.logout(0)).append(' ');
        look(token, seen);
        if (officer) {
            seen.append(token.close(World.READS)).append(' ');
        }
        int pin = officer ? Due.OFFICER_PIN : Due.USER_PIN;
        seen.append(token.login(0, officer, pin)).append(' ');
        look(token, seen);
    }

    private static void failToLogIn(HandleToken token, boolean officer, StringBuilder seen) {
        seen.append(token.logout(0)).append(' ');
        seen.append(token.close(World.READS)).append(' ');
        for (int i = 0; i < 4; i++) {
            seen.append(token.login(0, officer, -4 - i)).append(' ');
        }
        look(token, seen);
    }

    private static void closeOneByOne(HandleToken token, int[] order, StringBuilder seen) {
        for (int s : order) {
            seen.append(token.close(s)).append(' ');
            look(token, seen);
        }
    }

    private static void openMore(HandleToken token, StringBuilder seen) {
        seen.append(token.open(false)).append(' ');
        seen.append(token.open(true)).append(' ');
        look(token, seen);
    }
}

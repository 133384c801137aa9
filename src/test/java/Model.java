import java.util.ArrayList;
import java.util.List;
import java.util.Map;
import java.util.TreeMap;

/**
 * The token told a second time, in another manner: every refusal that fits is gathered, and the
 * one that stands first in the document's list (the greatest code) is answered.
 */
final class Model {
    private static final class Item {
        int attributes;
        int value;
        int owner;

        boolean has(int bit) {
            return (attributes & bit) == bit;
        }
    }

    private final int[] pins;
    private final int[] failures = new int[2];
    private final Boolean[] readWrite = new Boolean[3];
    private final TreeMap<Integer, Item> items = new TreeMap<>();
    private String who = "nobody";
    private int made = 0;
    private int generated = 0;
    private int refusal = 0;

    Model(int userPin, int officerPin) {
        pins = new int[] {userPin, officerPin};
    }

    int open(boolean wanted) {
        int least = 0;
        while (least < 3 && readWrite[least] != null) {
            least++;
        }
        begin();
        refuseIf(!wanted && who.equals("officer"), HandleToken.LOGIN);
        refuseIf(least == 3, HandleToken.FULL);
        if (refusal == 0) {
            readWrite[least] = wanted;
        }
        return refusal == 0 ? least : refusal;
    }

    int close(int s) {
        begin(s);
        if (refusal == 0) {
            readWrite[s] = null;
            items.values().removeIf(item -> !item.has(Due.TOKEN) && item.owner == s);
            if (readWrite[0] == null && readWrite[1] == null && readWrite[2] == null) {
                who = "nobody";
            }
        }
        return refusal;
    }

    int login(int s, boolean officer, int pin) {
        int role = officer ? 1 : 0;
        begin(s);
        refuseIf(!who.equals("nobody"), HandleToken.LOGIN);
        for (Boolean one : readWrite) {
            refuseIf(officer && one != null && !one, HandleToken.READ_ONLY);
        }
        refuseIf(failures[role] == 3, HandleToken.LOCKED);
        refuseIf(pins[role] != pin, HandleToken.PIN);
        if (refusal == HandleToken.PIN) {
            failures[role]++;
        }
        if (refusal == 0) {
            failures[role] = 0;
            who = officer ? "officer" : "user";
        }
        return refusal;
    }

    int logout(int s) {
        begin(s);
        refuseIf(who.equals("nobody"), HandleToken.LOGIN);
        if (refusal == 0) {
            who = "nobody";
            items.values().removeIf(item -> !item.has(Due.TOKEN) && item.has(Due.PRIVATE));
        }
        return refusal;
    }

    int unlock(int s, int pin) {
        begin(s);
        refuseIf(!who.equals("officer"), HandleToken.LOGIN);
        if (refusal == 0) {
            pins[0] = pin;
            failures[0] = 0;
        }
        return refusal;
    }

    int create(int s, int attributes, int value) {
        begin(s);
        refuseMaking(s, attributes);
        return refusal == 0 ? make(s, attributes, value) : refusal;
    }

    int generate(int s, int attributes) {
        begin(s);
        refuseMaking(s, attributes);
        if (refusal != 0) {
            return refusal;
        }
        int more = Due.LOCAL;
        more += (attributes & Due.SENSITIVE) == 0 ? 0 : Due.ALWAYS;
        more += (attributes & Due.EXTRACTABLE) == 0 ? Due.NEVER : 0;
        return make(s, attributes + more, Words.mac(generated++, 1234567));
    }

    int destroy(int s, int h) {
        begin(s);
        Item item = visible(h);
        refuseIf(item.has(Due.TOKEN) && !writes(s), HandleToken.READ_ONLY);
        if (refusal == 0) {
            items.remove(h);
        }
        return refusal;
    }

    int attributes(int s, int h) {
        begin(s);
        Item item = visible(h);
        return refusal == 0 ? item.attributes : refusal;
    }

    int limit(int s, int h, int mask) {
        begin(s);
        Item item = visible(h);
        refuseIf(item.has(Due.TOKEN) && !writes(s), HandleToken.READ_ONLY);
        refuseIf(mask == 0 || (mask | 508) != 508, HandleToken.ATTRIBUTES);
        if (refusal != 0) {
            return refusal;
        }
        for (int bit = 8; bit <= 256; bit *= 2) {
            if ((mask & bit) != 0 && item.has(bit)) {
                item.attributes -= bit;
            }
        }
        if ((mask & Due.SENSITIVE) != 0 && !item.has(Due.SENSITIVE)) {
            item.attributes += Due.SENSITIVE;
        }
        return item.attributes;
    }

    int trust(int s, int h) {
        begin(s);
        Item item = visible(h);
        refuseIf(!who.equals("officer"), HandleToken.LOGIN);
        refuseIf(item.has(Due.TOKEN) && !writes(s), HandleToken.READ_ONLY);
        refuseIf(!item.has(Due.TOKEN | Due.WRAP), HandleToken.ATTRIBUTES);
        if (refusal == 0) {
            item.attributes |= Due.TRUSTED;
        }
        return refusal;
    }

    long read(int s, int h) {
        begin(s);
        Item item = visible(h);
        refuseIf(item.has(Due.SENSITIVE), HandleToken.ATTRIBUTES);
        return refusal == 0 ? Words.unsigned(item.value) : refusal;
    }

    long encrypt(int s, int h, int word) {
        Item item = usable(s, h, Due.ENCRYPT);
        return refusal == 0 ? Words.unsigned(Words.enc(item.value, word)) : refusal;
    }

    long decrypt(int s, int h, int word) {
        Item item = usable(s, h, Due.DECRYPT);
        return refusal == 0 ? Words.unsigned(Words.dec(item.value, word)) : refusal;
    }

    long sign(int s, int h, int word) {
        Item item = usable(s, h, Due.SIGN);
        return refusal == 0 ? Words.unsigned(Words.mac(item.value, word)) : refusal;
    }

    long wrap(int s, int by, int h) {
        begin(s);
        Item wrapping = visible(by);
        Item item = visible(h);
        refuseIf(!wrapping.has(Due.WRAP | Due.TRUSTED), HandleToken.ATTRIBUTES);
        refuseIf(!item.has(Due.EXTRACTABLE), HandleToken.ATTRIBUTES);
        return refusal == 0 ? Words.blob(wrapping.value, item.value) : refusal;
    }

    int unwrap(int s, int by, long blob, int attributes) {
        begin(s);
        Item wrapping = visible(by);
        refuseMaking(s, attributes);
        refuseIf((attributes & Due.WRAP) != 0 || !wrapping.has(Due.UNWRAP), HandleToken.ATTRIBUTES);
        int value = Words.dec(wrapping.value, (int) blob);
        refuseIf(Words.blob(wrapping.value, value) != blob, HandleToken.BLOB);
        return refusal == 0 ? make(s, attributes, value) : refusal;
    }

    int find(int s, int k) {
        begin(s);
        if (refusal != 0) {
            return refusal;
        }
        List<Integer> seen = new ArrayList<>();
        for (Map.Entry<Integer, Item> entry : items.entrySet()) {
            if (!entry.getValue().has(Due.PRIVATE) || who.equals("user")) {
                seen.add(entry.getKey());
            }
        }
        return k < 0 || k >= seen.size() ? 0 : seen.get(k);
    }

    int status(int what) {
        int sessions = 0;
        for (int s = 0; s < 3; s++) {
            sessions += readWrite[s] == null ? 0 : 1 << s;
            sessions += writes(s) ? 8 << s : 0;
        }
        int role = who.equals("officer") ? 2 : who.equals("user") ? 1 : 0;
        int[] answers = {role, sessions, failures[0], failures[1], items.size(), made};
        return what < 0 || what > 5 ? -1 : answers[what];
    }

    private void begin() {
        refusal = 0;
    }

    private void begin(int s) {
        begin();
        refuseIf(s < 0 || s > 2 || readWrite[s] == null, HandleToken.SESSION);
    }

    private void refuseIf(boolean fits, int code) {
        if (fits && (refusal == 0 || code > refusal)) {
            refusal = code;
        }
    }

    private boolean writes(int s) {
        return s >= 0 && s <= 2 && readWrite[s] != null && readWrite[s];
    }

    /** An item without attributes stands in where HANDLE is refused, so that the call can go on gathering. */
    private Item visible(int h) {
        Item item = items.get(h);
        boolean seen = item != null && (!item.has(Due.PRIVATE) || who.equals("user"));
        refuseIf(!seen, HandleToken.HANDLE);
        return seen ? item : new Item();
    }

    private Item usable(int s, int h, int use) {
        begin(s);
        Item item = visible(h);
        refuseIf(!item.has(use), HandleToken.ATTRIBUTES);
        return item;
    }

    private void refuseMaking(int s, int attributes) {
        refuseIf((attributes & Due.PRIVATE) != 0 && !who.equals("user"), HandleToken.LOGIN);
        refuseIf((attributes & Due.TOKEN) != 0 && !writes(s), HandleToken.READ_ONLY);
        refuseIf(attributes < 0 || attributes > 511, HandleToken.ATTRIBUTES);
        refuseIf((attributes & 160) == 160 || (attributes & 272) == 272, HandleToken.ATTRIBUTES);
        refuseIf(items.size() == 10, HandleToken.FULL);
    }

    private int make(int s, int attributes, int value) {
        Item item = new Item();
        item.attributes = attributes;
        item.value = value;
        item.owner = s;
        items.put(++made, item);
        return made;
    }
}

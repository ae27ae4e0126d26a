import java.util.ArrayDeque;
import java.util.ArrayList;
import java.util.Arrays;
import java.util.Deque;
import java.util.List;
import java.util.regex.Matcher;
import java.util.regex.Pattern;

/**
 * The document once more, in the slowest and plainest way: every SHARE is looked at, and none of
 * the class's own tricks (bits, costs, cuts) is used, so that the two can be held side by side.
 */
final class PlainLine {
    private static final Pattern TOKEN = Pattern.compile("[a-z]+|[0-9]+|[^ ]", Pattern.DOTALL);

    /** All that part 1 tells but THE TEXT; hands of rests are -1. */
    private static final class State {
        int[] pitch = {0};
        int[] hand = {-1};
        int wait = 2;
        int reach = 2;
        int bar = 4;

        State copy() {
            State other = new State();
            other.pitch = pitch.clone();
            other.hand = hand.clone();
            other.wait = wait;
            other.reach = reach;
            other.bar = bar;
            return other;
        }
    }

    private State now = new State();
    private String text = "";
    private final Deque<State> past = new ArrayDeque<>();
    private final List<int[]> seen = new ArrayList<>();
    private final State[] images = new State[2];

    int type(int letter) {
        if (letter < 0 || letter > 255) {
            return -1;
        }
        if (text.length() == 120) {
            return -3;
        }
        text += (char) letter;
        return text.length();
    }

    int clear() {
        int had = text.length();
        text = "";
        return had;
    }

    int tells() {
        List<String> tokens = new ArrayList<>();
        List<Integer> places = new ArrayList<>();
        Matcher matcher = TOKEN.matcher(text);
        while (matcher.find()) {
            tokens.add(matcher.group());
            places.add(matcher.start());
        }
        places.add(text.length());
        State told = new State();
        String line = null;
        String hands = null;
        String word = "";
        for (int i = 0; i < tokens.size(); i++) {
            String token = tokens.get(i);
            boolean good;
            if (i % 3 == 0) {
                word = token;
                good = token.equals("line") && line == null
                        || token.equals("hands") && line != null && hands == null
                        || token.matches("wait|reach|bar");
            } else if (i % 3 == 2) {
                good = token.equals(";");
            } else if (word.equals("line")) {
                good = token.matches("[0-7]{1,12}");
                line = token;
            } else if (word.equals("hands")) {
                good = token.matches("[01]+") && token.length() == line.length();
                hands = token;
            } else if (word.equals("wait")) {
                good = token.matches("[1-5]");
                told.wait = token.charAt(0) - '0';
            } else if (word.equals("reach")) {
                good = token.matches("[0-6]");
                told.reach = token.charAt(0) - '0';
            } else {
                good = token.matches("[2-6]");
                told.bar = token.charAt(0) - '0';
            }
            if (!good) {
                return -10 - places.get(i);
            }
        }
        if (tokens.size() % 3 != 0 || line == null) {
            return -10 - text.length();
        }
        told.pitch = line.chars().map(c -> c - '0').toArray();
        told.hand = new int[line.length()];
        for (int t = 0; t < line.length(); t++) {
            told.hand[t] = told.pitch[t] == 0 ? -1 : hands == null ? 0 : hands.charAt(t) - '0';
        }
        remember();
        now = told;
        text = "";
        return tokens.size() / 3;
    }

    private void remember() {
        past.addLast(now.copy());
        if (past.size() > 6) {
            past.removeFirst();
        }
    }

    private boolean isTick(int t) {
        return 0 <= t && t < now.pitch.length;
    }

    int gives(int t, int hand) {
        if (!isTick(t) || now.pitch[t] == 0 || hand != 0 && hand != 1) {
            return -1;
        }
        if (now.hand[t] == hand) {
            return -2;
        }
        remember();
        now.hand[t] = hand;
        return notesOf(now.hand, hand);
    }

    int flips(int t, int u) {
        if (!isTick(t) || !isTick(u) || u < t) {
            return -1;
        }
        int many = 0;
        for (int i = t; i <= u; i++) {
            many += now.pitch[i] == 0 ? 0 : 1;
        }
        if (many == 0) {
            return -2;
        }
        remember();
        for (int i = t; i <= u; i++) {
            if (now.pitch[i] != 0) {
                now.hand[i] = 1 - now.hand[i];
            }
        }
        return many;
    }

    int mends() {
        int many = change();
        if (many < 1) {
            return -2;
        }
        remember();
        now.hand = mended();
        return many;
    }

    int sets(int what, int n) {
        if (what == 0 && n >= 1 && n <= 5) {
            return set(n, now.wait, 0);
        }
        if (what == 1 && n >= 0 && n <= 6) {
            return set(n, now.reach, 1);
        }
        if (what == 2 && n >= 2 && n <= 6) {
            return set(n, now.bar, 2);
        }
        return -1;
    }

    private int set(int n, int was, int what) {
        if (n == was) {
            return -2;
        }
        remember();
        now.wait = what == 0 ? n : now.wait;
        now.reach = what == 1 ? n : now.reach;
        now.bar = what == 2 ? n : now.bar;
        return was;
    }

    int undo() {
        if (past.isEmpty()) {
            return -2;
        }
        now = past.removeLast();
        return past.size();
    }

    int tick(int t, int what) {
        if (!isTick(t) || what < 0 || what > 3) {
            return -1;
        }
        if (what == 0) {
            return now.pitch[t];
        }
        if (what == 1) {
            return now.pitch[t] == 0 ? -9 : now.hand[t];
        }
        for (int[] pair : pairs(now.hand)) {
            if (pair[0] == t) {
                return (what == 2 ? soon(pair, now.wait) : far(pair)) ? 1 : 0;
            }
        }
        return 0;
    }

    int share(int what) {
        int many = 0;
        switch (what) {
            case 0:
                for (int[] pair : pairs(now.hand)) {
                    many += soon(pair, now.wait) ? 1 : 0;
                }
                return many;
            case 1:
                for (int[] pair : pairs(now.hand)) {
                    many += far(pair) ? 1 : 0;
                }
                return many;
            case 2:
                return likeness(now.hand);
            case 3:
                return tilt(now.hand);
            case 4:
                return lawful(now.hand, now.wait) ? 1 : 0;
            default:
                return -1000000;
        }
    }

    int best(int what) {
        if (what < 0 || what > 2) {
            return -1000000;
        }
        int[] best = null;
        for (int[] share : lawfulShares(now.wait)) {
            if (best == null || likeness(share) > likeness(best)
                    || likeness(share) == likeness(best)
                    && Math.abs(tilt(share)) < Math.abs(tilt(best))) {
                best = share;
            }
        }
        if (best == null) {
            return -2000000;
        }
        if (what < 2) {
            return what == 0 ? likeness(best) : tilt(best);
        }
        int bits = 0;
        for (int t = 0; t < best.length; t++) {
            bits += best[t] == 1 ? 1 << t : 0;
        }
        return bits;
    }

    int slowest() {
        int slowest = -9;
        for (int wait = 1; wait <= 5; wait++) {
            if (!lawfulShares(wait).isEmpty()) {
                slowest = wait;
            }
        }
        return slowest;
    }

    int change() {
        int[] mended = mended();
        return mended == null ? -9 : differing(mended, now.hand);
    }

    int busiest(int hand, int what) {
        if (hand < 0 || hand > 1 || what < 0 || what > 1) {
            return -1;
        }
        int tick = -1;
        int most = -1;
        for (int t = 0; t < now.pitch.length; t++) {
            int many = 0;
            for (int u = t; u < t + now.bar && u < now.pitch.length; u++) {
                many += now.hand[u] == hand ? 1 : 0;
            }
            if (many > most) {
                most = many;
                tick = t;
            }
        }
        return what == 0 ? tick : most;
    }

    int tables(int what) {
        return ofTables(what, lawfulTables());
    }

    int sees(int t, int hand) {
        if (t < 0 || t > 11 || hand < 0 || hand > 1) {
            return -1;
        }
        if (seen.size() == 6) {
            return -3;
        }
        seen.add(new int[] {t, hand});
        return seen.size();
    }

    int forget() {
        int had = seen.size();
        seen.clear();
        return had;
    }

    int which(int what) {
        return ofTables(what, tablesSeen());
    }

    private static int ofTables(int what, List<Integer> tables) {
        if (what == 0) {
            return tables.size();
        }
        return what != 1 ? -1 : tables.isEmpty() ? -9 : tables.get(0);
    }

    int listen() {
        List<Integer> tables = tablesSeen();
        if (tables.size() <= 1) {
            return -9;
        }
        int tick = -9;
        int least = Integer.MAX_VALUE;
        for (int t = 0; t < now.pitch.length; t++) {
            int[] many = new int[2];
            for (int table : tables) {
                if (now.pitch[t] != 0) {
                    many[byTable(table)[t]]++;
                }
            }
            int greater = Math.max(many[0], many[1]);
            if (now.pitch[t] != 0 && greater < least) {
                least = greater;
                tick = t;
            }
        }
        return tick;
    }

    int keep(int image) {
        if (image < 0 || image > 1) {
            return -1;
        }
        images[image] = now.copy();
        return now.pitch.length;
    }

    int back(int image) {
        if (image < 0 || image > 1) {
            return -1;
        }
        if (images[image] == null) {
            return -2;
        }
        now = images[image].copy();
        past.clear();
        return now.pitch.length;
    }

    int count(int what) {
        int notes = (int) Arrays.stream(now.pitch).filter(p -> p != 0).count();
        int[] all = {now.pitch.length, notes, now.wait, now.reach, now.bar, seen.size(),
            text.length(), past.size()};
        return what < 0 || what >= all.length ? -1 : all[what];
    }

    // ---- what the words mean

    private static int notesOf(int[] share, int hand) {
        return (int) Arrays.stream(share).filter(h -> h == hand).count();
    }

    private List<int[]> pairs(int[] share) {
        List<int[]> pairs = new ArrayList<>();
        for (int t = 0; t < share.length; t++) {
            for (int u = t + 1; share[t] >= 0 && u < share.length; u++) {
                if (share[u] == share[t]) {
                    pairs.add(new int[] {t, u});
                    break;
                }
            }
        }
        return pairs;
    }

    private static boolean soon(int[] pair, int wait) {
        return pair[1] - pair[0] < wait;
    }

    private boolean far(int[] pair) {
        int leap = Math.abs(now.pitch[pair[1]] - now.pitch[pair[0]]);
        return leap > now.reach + (pair[1] - pair[0]);
    }

    private boolean lawful(int[] share, int wait) {
        return pairs(share).stream().noneMatch(pair -> soon(pair, wait) || far(pair));
    }

    private int likeness(int[] share) {
        int many = 0;
        for (int t = 0; t + now.bar < share.length; t++) {
            many += share[t] >= 0 && share[t] == share[t + now.bar] ? 1 : 0;
        }
        return many;
    }

    private static int tilt(int[] share) {
        return notesOf(share, 0) - notesOf(share, 1);
    }

    private static int differing(int[] one, int[] other) {
        int many = 0;
        for (int t = 0; t < one.length; t++) {
            many += one[t] != other[t] ? 1 : 0;
        }
        return many;
    }

    /** In the order of the document: HAND 0 first at the first NOTE at which two differ. */
    private List<int[]> lawfulShares(int wait) {
        int notes = count(1);
        List<int[]> shares = new ArrayList<>();
        for (int number = 0; number < 1 << notes; number++) {
            int[] share = new int[now.pitch.length];
            int note = 0;
            for (int t = 0; t < share.length; t++) {
                share[t] = now.pitch[t] == 0 ? -1 : number >> notes - 1 - note++ & 1;
            }
            if (lawful(share, wait)) {
                shares.add(share);
            }
        }
        return shares;
    }

    private int[] mended() {
        int[] mended = null;
        for (int[] share : lawfulShares(now.wait)) {
            if (mended == null || differing(share, now.hand) < differing(mended, now.hand)) {
                mended = share;
            }
        }
        return mended;
    }

    private int[] byTable(int table) {
        return Arrays.stream(now.pitch).map(p -> p == 0 ? -1 : table >> p - 1 & 1).toArray();
    }

    private List<Integer> lawfulTables() {
        List<Integer> tables = new ArrayList<>();
        for (int table = 0; table < 128; table++) {
            boolean plain = true;
            for (int pitch = 1; pitch <= 7; pitch++) {
                int wanted = pitch;
                boolean used = Arrays.stream(now.pitch).anyMatch(p -> p == wanted);
                plain &= used || (table >> pitch - 1 & 1) == 0;
            }
            if (plain && lawful(byTable(table), now.wait)) {
                tables.add(table);
            }
        }
        return tables;
    }

    private List<Integer> tablesSeen() {
        List<Integer> tables = new ArrayList<>();
        for (int table : lawfulTables()) {
            int[] share = byTable(table);
            if (seen.stream().allMatch(s -> s[0] < share.length && share[s[0]] == s[1])) {
                tables.add(table);
            }
        }
        return tables;
    }
}

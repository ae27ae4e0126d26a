import java.util.Arrays;

/** One fast line shared by two hands. Words in capitals are those of the document. */
public final class SharedLine {
    public static final int BAD = -1, STATE = -2, FULL = -3, NONE = -9;
    public static final int NO = -1000000, NOT = -2000000;

    private static final int MOST_TICKS = 12, MOST_PITCH = 7, ALL_TABLES = 128;
    private static final int MOST_LETTERS = 120, MOST_LETTER = 255;
    private static final int MOST_SEEN = 6, MOST_UNDONE = 6, IMAGES = 2;
    private static final int FAULT_BASE = -10;

    // The numbers of THE LINE, by what sets() calls them.
    private static final int WAIT = 0, REACH = 1, BAR = 2;
    private static final int[] NUMBER_LEAST = {1, 0, 2};
    private static final int[] NUMBER_MOST = {5, 6, 6};
    private static final int[] NUMBER_AT_FIRST = {2, 2, 4};

    private final Line now = new Line();
    private final Text text = new Text();
    private final Past past = new Past();
    private final Search search = new Search();
    private final TableSet tableSet = new TableSet();
    private final Line[] images = new Line[IMAGES];
    private int seenCount;
    // Bit t: the NOTE at tick t was SEEN to be of HAND 0, of HAND 1.
    private int seenOfHand0, seenOfHand1;

    public SharedLine() {
    }

    // ---- what is told

    public int type(int letter) {
        if (letter < 0 || letter > MOST_LETTER) {
            return BAD;
        }
        return text.add(letter) ? text.length : FULL;
    }

    public int clear() {
        int had = text.length;
        text.length = 0;
        return had;
    }

    public int tells() {
        int items = text.read();
        if (items < 0) {
            return items;
        }
        past.remember(now);
        now.copyFrom(text.draft);
        text.length = 0;
        return items;
    }

    // ---- what is done

    public int gives(int t, int hand) {
        if (!now.hasNote(t) || !isHand(hand)) {
            return BAD;
        }
        if (now.handAt(t) == hand) {
            return STATE;
        }
        past.remember(now);
        now.hands ^= 1 << t;
        return Integer.bitCount(now.notesOf(hand));
    }

    public int flips(int t, int u) {
        if (!now.hasTick(t) || !now.hasTick(u) || u < t) {
            return BAD;
        }
        int turned = now.notes & ticksFrom(t, u + 1 - t);
        if (turned == 0) {
            return STATE;
        }
        past.remember(now);
        now.hands ^= turned;
        return Integer.bitCount(turned);
    }

    public int mends() {
        int changed = mendingChanges();
        if (changed <= 0) {
            return STATE;
        }
        past.remember(now);
        now.hands = search.found;
        return changed;
    }

    public int sets(int what, int n) {
        if (!isNumber(what, n)) {
            return BAD;
        }
        int was = now.number(what);
        if (was == n) {
            return STATE;
        }
        past.remember(now);
        now.setNumber(what, n);
        return was;
    }

    public int undo() {
        return past.recall(now) ? past.size : STATE;
    }

    // ---- asked

    public int tick(int t, int what) {
        if (!now.hasTick(t)) {
            return BAD;
        }
        switch (what) {
            case 0: return now.pitchAt(t);
            case 1: return now.hasNote(t) ? now.handAt(t) : NONE;
            case 2: return now.isSoonBehind(t) ? 1 : 0;
            case 3: return now.isFarBehind(t) ? 1 : 0;
            default: return BAD;
        }
    }

    public int share(int what) {
        switch (what) {
            case 0: return now.countTooSoon();
            case 1: return now.countTooFar();
            case 2: return now.likeness(now.hands);
            case 3: return now.tilt(now.hands);
            case 4: return now.isLawful(now.hands) ? 1 : 0;
            default: return NO;
        }
    }

    // ---- other shares

    public int best(int what) {
        if (what < 0 || what > 2) {
            return NO;
        }
        search.lookAt(now);
        if (!search.find(Search.FOR_BEST)) {
            return NOT;
        }
        switch (what) {
            case 0: return now.likeness(search.found);
            case 1: return now.tilt(search.found);
            default: return search.found;
        }
    }

    public int slowest() {
        search.lookAt(now);
        for (int wait = NUMBER_MOST[WAIT]; wait >= NUMBER_LEAST[WAIT]; wait--) {
            search.line.wait = wait;
            if (search.find(Search.FOR_ANY)) {
                return wait;
            }
        }
        return NONE;
    }

    public int change() {
        return mendingChanges();
    }

    public int busiest(int hand, int what) {
        if (!isHand(hand) || what < 0 || what > 1) {
            return BAD;
        }
        int notes = now.notesOf(hand);
        int busiestTick = 0;
        int most = 0;
        for (int t = 0; t < now.ticks; t++) {
            int inBar = Integer.bitCount(notes & ticksFrom(t, now.bar));
            if (inBar > most) {
                most = inBar;
                busiestTick = t;
            }
        }
        return what == 0 ? busiestTick : most;
    }

    public int tables(int what) {
        return askTables(what, 0, 0);
    }

    // ---- which table

    public int sees(int t, int hand) {
        if (t < 0 || t >= MOST_TICKS || !isHand(hand)) {
            return BAD;
        }
        if (seenCount >= MOST_SEEN) {
            return FULL;
        }
        if (hand == 0) {
            seenOfHand0 |= 1 << t;
        } else {
            seenOfHand1 |= 1 << t;
        }
        seenCount++;
        return seenCount;
    }

    public int forget() {
        int had = seenCount;
        seenCount = 0;
        seenOfHand0 = 0;
        seenOfHand1 = 0;
        return had;
    }

    public int which(int what) {
        return askTables(what, seenOfHand0, seenOfHand1);
    }

    public int listen() {
        tableSet.gather(now, seenOfHand0, seenOfHand1);
        return tableSet.size > 1 ? tableSet.tickThatHalvesBest(now) : NONE;
    }

    // ---- images

    public int keep(int image) {
        if (image < 0 || image >= IMAGES) {
            return BAD;
        }
        Line kept = images[image];
        if (kept == null) {
            kept = new Line();
            images[image] = kept;
        }
        kept.copyFrom(now);
        return now.ticks;
    }

    public int back(int image) {
        if (image < 0 || image >= IMAGES) {
            return BAD;
        }
        Line kept = images[image];
        if (kept == null) {
            return STATE;
        }
        now.copyFrom(kept);
        past.size = 0;
        return now.ticks;
    }

    public int count(int what) {
        switch (what) {
            case 0: return now.ticks;
            case 1: return Integer.bitCount(now.notes);
            case 2: return now.wait;
            case 3: return now.reach;
            case 4: return now.bar;
            case 5: return seenCount;
            case 6: return text.length;
            case 7: return past.size;
            default: return BAD;
        }
    }

    // ---- helpers

    /** CHANGE; where it is not NONE, the search has found the SHARE that is MENDED. */
    private int mendingChanges() {
        search.lookAt(now);
        return search.find(Search.FOR_MENDED) ? Integer.bitCount(search.found ^ now.hands) : NONE;
    }

    private int askTables(int what, int ofHand0, int ofHand1) {
        if (what < 0 || what > 1) {
            return BAD;
        }
        tableSet.gather(now, ofHand0, ofHand1);
        return what == 0 ? tableSet.size : tableSet.least;
    }

    private static boolean isHand(int hand) {
        return hand == 0 || hand == 1;
    }

    private static boolean isNumber(int what, int n) {
        return what >= WAIT && what <= BAR && n >= NUMBER_LEAST[what] && n <= NUMBER_MOST[what];
    }

    /** Bits for as many ticks as told, from t on; t is a tick and there are 12 at most. */
    private static int ticksFrom(int t, int many) {
        return ((1 << many) - 1) << t;
    }

    /** All that part 1 of the document tells, but THE TEXT. */
    private static final class Line {
        final int[] pitches = new int[MOST_TICKS];
        int ticks;
        // Bit t: there is a NOTE at tick t; it is of HAND 1 (rests have no bit in either).
        int notes, hands;
        int wait, reach, bar;

        Line() {
            makeNew();
        }

        void makeNew() {
            Arrays.fill(pitches, 0);
            ticks = 1;
            notes = 0;
            hands = 0;
            wait = NUMBER_AT_FIRST[WAIT];
            reach = NUMBER_AT_FIRST[REACH];
            bar = NUMBER_AT_FIRST[BAR];
        }

        void copyFrom(Line other) {
            System.arraycopy(other.pitches, 0, pitches, 0, MOST_TICKS);
            ticks = other.ticks;
            notes = other.notes;
            hands = other.hands;
            wait = other.wait;
            reach = other.reach;
            bar = other.bar;
        }

        void setPitch(int t, int pitch) {
            if (t < 0 || t >= MOST_TICKS) {
                return;
            }
            pitches[t] = pitch;
            if (pitch != 0) {
                notes |= 1 << t;
            }
        }

        int number(int what) {
            switch (what) {
                case WAIT: return wait;
                case REACH: return reach;
                default: return bar;
            }
        }

        void setNumber(int what, int n) {
            switch (what) {
                case WAIT: wait = n; break;
                case REACH: reach = n; break;
                default: bar = n; break;
            }
        }

        boolean hasTick(int t) {
            return t >= 0 && t < ticks;
        }

        boolean hasNote(int t) {
            return t >= 0 && t < ticks && (notes >> t & 1) == 1;
        }

        int pitchAt(int t) {
            return t >= 0 && t < MOST_TICKS ? pitches[t] : 0;
        }

        int handAt(int t) {
            return hands >> t & 1;
        }

        int notesOf(int hand) {
            return hand == 0 ? notes & ~hands : hands;
        }

        boolean isTooSoon(int first, int second) {
            return second - first < wait;
        }

        boolean isTooFar(int first, int second) {
            return Math.abs(pitchAt(first) - pitchAt(second)) > reach + second - first;
        }

        /** Whether a HAND whose NOTE ahead is at tick last (NONE: it has none) may strike at t. */
        boolean mayStrike(int last, int t) {
            return last == NONE || !isTooSoon(last, t) && !isTooFar(last, t);
        }

        boolean isSoonBehind(int t) {
            int next = nextOfHand(t);
            return next != NONE && isTooSoon(t, next);
        }

        boolean isFarBehind(int t) {
            int next = nextOfHand(t);
            return next != NONE && isTooFar(t, next);
        }

        /** The tick of the next NOTE of the HAND of the NOTE at t; NONE. */
        private int nextOfHand(int t) {
            if (!hasNote(t)) {
                return NONE;
            }
            for (int next = t + 1; next < ticks; next++) {
                if (hasNote(next) && handAt(next) == handAt(t)) {
                    return next;
                }
            }
            return NONE;
        }

        int countTooSoon() {
            int pairs = 0;
            for (int t = 0; t < ticks; t++) {
                if (isSoonBehind(t)) {
                    pairs++;
                }
            }
            return pairs;
        }

        int countTooFar() {
            int pairs = 0;
            for (int t = 0; t < ticks; t++) {
                if (isFarBehind(t)) {
                    pairs++;
                }
            }
            return pairs;
        }

        boolean isLawful(int share) {
            int last0 = NONE;
            int last1 = NONE;
            for (int t = 0; t < ticks; t++) {
                if (!hasNote(t)) {
                    continue;
                }
                boolean ofHand1 = (share >> t & 1) == 1;
                if (!mayStrike(ofHand1 ? last1 : last0, t)) {
                    return false;
                }
                if (ofHand1) {
                    last1 = t;
                } else {
                    last0 = t;
                }
            }
            return true;
        }

        int likeness(int share) {
            int pairs = notes & notes >> bar;
            return Integer.bitCount(pairs & ~(share ^ share >> bar));
        }

        int tilt(int share) {
            return Integer.bitCount(notes) - 2 * Integer.bitCount(share);
        }

        /** The PITCHES that NOTES have, as bits of a TABLE. */
        int pitchesUsed() {
            int used = 0;
            for (int t = 0; t < ticks; t++) {
                if (hasNote(t)) {
                    used |= 1 << pitchAt(t) - 1;
                }
            }
            return used;
        }

        int shareByTable(int table) {
            int share = 0;
            for (int t = 0; t < ticks; t++) {
                if (hasNote(t) && (table >> pitchAt(t) - 1 & 1) == 1) {
                    share |= 1 << t;
                }
            }
            return share;
        }
    }

    /** What can be UNDONE, the latest last. */
    private static final class Past {
        private final Line[] lines = new Line[MOST_UNDONE];
        int size;

        Past() {
            for (int i = 0; i < MOST_UNDONE; i++) {
                lines[i] = new Line();
            }
        }

        void remember(Line line) {
            if (size >= MOST_UNDONE) {
                loseOldest();
            }
            lines[size].copyFrom(line);
            size++;
        }

        /** The oldest row goes behind the others, to be used again. */
        private void loseOldest() {
            Line oldest = lines[0];
            for (int i = 1; i < MOST_UNDONE; i++) {
                lines[i - 1] = lines[i];
            }
            lines[MOST_UNDONE - 1] = oldest;
            size = MOST_UNDONE - 1;
        }

        boolean recall(Line line) {
            if (size <= 0) {
                return false;
            }
            size--;
            line.copyFrom(lines[size]);
            return true;
        }
    }

    /**
     * Looks for the LAWFUL SHARE of the least cost. Shares come in the document's order (HAND 0
     * ahead of HAND 1 at the first NOTE at which they differ), so of several the first one stays.
     */
    private static final class Search {
        static final int FOR_ANY = 0, FOR_BEST = 1, FOR_MENDED = 2;
        // More than TILT can be away from 0, so that LIKENESS comes first.
        private static final int COST_OF_UNLIKE = 100;
        private static final int NOTHING_FOUND = 1000000;

        final Line line = new Line();
        int found;
        private int goal;
        private int leastCost;

        void lookAt(Line other) {
            line.copyFrom(other);
        }

        boolean find(int newGoal) {
            goal = newGoal;
            found = 0;
            leastCost = NOTHING_FOUND;
            goOn(0, 0, NONE, NONE, 0);
            return leastCost < NOTHING_FOUND;
        }

        /** Ahead of t all is shared; last0 and last1 are the latest ticks of the HANDS there. */
        private void goOn(int t, int share, int last0, int last1, int cost) {
            if (cost >= leastCost) {
                return;
            }
            if (t >= line.ticks) {
                weigh(share, cost);
                return;
            }
            if (!line.hasNote(t)) {
                goOn(t + 1, share, last0, last1, cost);
                return;
            }
            if (line.mayStrike(last0, t)) {
                goOn(t + 1, share, t, last1, cost + costAt(t, share));
            }
            if (line.mayStrike(last1, t)) {
                int other = share | 1 << t;
                goOn(t + 1, other, last0, t, cost + costAt(t, other));
            }
        }

        private int costAt(int t, int share) {
            switch (goal) {
                case FOR_BEST: return isUnlike(t, share) ? COST_OF_UNLIKE : 0;
                case FOR_MENDED: return (share ^ line.hands) >> t & 1;
                default: return 0;
            }
        }

        /** Whether there is a NOTE one BAR ahead of t, and it is of the other HAND. */
        private boolean isUnlike(int t, int share) {
            int ahead = t - line.bar;
            return line.hasNote(ahead) && (share >> t & 1) != (share >> ahead & 1);
        }

        private void weigh(int share, int cost) {
            int whole = goal == FOR_BEST ? cost + Math.abs(line.tilt(share)) : cost;
            if (whole < leastCost) {
                leastCost = whole;
                found = share;
            }
        }
    }

    /** Those of TABLES by which all that was SEEN is so. */
    private static final class TableSet {
        int size;
        int least;
        // By how many of them the NOTE at a tick is of HAND 1.
        private final int[] manyOfHand1 = new int[MOST_TICKS];

        void gather(Line line, int seenOfHand0, int seenOfHand1) {
            size = 0;
            least = NONE;
            Arrays.fill(manyOfHand1, 0);
            int unused = ~line.pitchesUsed();
            for (int table = 0; table < ALL_TABLES; table++) {
                if ((table & unused) != 0) {
                    continue;
                }
                int share = line.shareByTable(table);
                // A tick without a NOTE is in neither, so what was SEEN there is so by no TABLE.
                boolean isSo = (seenOfHand0 & ~(line.notes & ~share)) == 0
                        && (seenOfHand1 & ~share) == 0;
                if (isSo && line.isLawful(share)) {
                    include(table, share);
                }
            }
        }

        private void include(int table, int share) {
            if (size == 0) {
                least = table;
            }
            size++;
            for (int t = 0; t < MOST_TICKS; t++) {
                manyOfHand1[t] += share >> t & 1;
            }
        }

        int tickThatHalvesBest(Line line) {
            int tick = NONE;
            int leastGreater = size + 1;
            for (int t = 0; t < MOST_TICKS; t++) {
                int greater = Math.max(manyOfHand1[t], size - manyOfHand1[t]);
                if (line.hasNote(t) && greater < leastGreater) {
                    leastGreater = greater;
                    tick = t;
                }
            }
            return tick;
        }
    }

    /** THE TEXT, read into a draft: where reading stops, the TOKEN it stands at is the FAULT. */
    private static final class Text {
        private static final String WORD_LINE = "line", WORD_HANDS = "hands";
        private static final String WORD_WAIT = "wait", WORD_REACH = "reach", WORD_BAR = "bar";
        // Kinds of ITEMS; the first three are the numbers of THE LINE.
        private static final int ITEM_LINE = 3, ITEM_HANDS = 4;
        // Kinds of TOKENS.
        private static final int END = 0, WORD = 1, FIGURES = 2, STOP = 3, BLANK = 4, OTHER = 5;

        final Line draft = new Line();
        int length;
        private final int[] letters = new int[MOST_LETTERS];
        private boolean lineTold, handsTold;
        // Of the TOKEN that reading stands at.
        private int kind, start, end;

        boolean add(int letter) {
            if (length >= MOST_LETTERS) {
                return false;
            }
            letters[length] = letter;
            length++;
            return true;
        }

        /** How many ITEMS; -10 less FAULT. */
        int read() {
            draft.makeNew();
            lineTold = false;
            handsTold = false;
            end = 0;
            for (int items = 0; items <= MOST_LETTERS; items++) {
                nextToken();
                if (kind == END && lineTold) {
                    return items;
                }
                if (!readItem()) {
                    break;
                }
            }
            return FAULT_BASE - start;
        }

        private boolean readItem() {
            int item = itemOfWord();
            if (!mayBegin(item)) {
                return false;
            }
            nextToken();
            if (kind != FIGURES || !takeFigures(item)) {
                return false;
            }
            nextToken();
            return kind == STOP;
        }

        private void nextToken() {
            start = end;
            while (start < length && kindAt(start) == BLANK) {
                start++;
            }
            kind = kindAt(start);
            end = kind == END ? start : start + 1;
            boolean isRow = kind == WORD || kind == FIGURES;
            while (isRow && end < length && kindAt(end) == kind) {
                end++;
            }
        }

        private int kindAt(int place) {
            int letter = letterAt(place);
            if (letter == NONE) {
                return END;
            }
            if (letter >= 'a' && letter <= 'z') {
                return WORD;
            }
            if (letter >= '0' && letter <= '9') {
                return FIGURES;
            }
            if (letter == ';') {
                return STOP;
            }
            return letter == ' ' ? BLANK : OTHER;
        }

        private int itemOfWord() {
            if (isWord(WORD_LINE)) {
                return ITEM_LINE;
            }
            if (isWord(WORD_HANDS)) {
                return ITEM_HANDS;
            }
            if (isWord(WORD_WAIT)) {
                return WAIT;
            }
            if (isWord(WORD_REACH)) {
                return REACH;
            }
            return isWord(WORD_BAR) ? BAR : NONE;
        }

        private boolean isWord(String word) {
            if (end - start != word.length()) {
                return false;
            }
            for (int i = 0; i < word.length(); i++) {
                if (letterAt(start + i) != word.charAt(i)) {
                    return false;
                }
            }
            return true;
        }

        private boolean mayBegin(int item) {
            switch (item) {
                case NONE: return false;
                case ITEM_LINE: return !lineTold;
                case ITEM_HANDS: return lineTold && !handsTold;
                default: return true;
            }
        }

        private boolean takeFigures(int item) {
            switch (item) {
                case ITEM_LINE: return takeLine();
                case ITEM_HANDS: return takeHands();
                default: return takeNumber(item);
            }
        }

        private boolean takeLine() {
            if (end - start > MOST_TICKS) {
                return false;
            }
            draft.ticks = end - start;
            for (int t = 0; t < draft.ticks; t++) {
                int pitch = figureAt(start + t);
                if (pitch > MOST_PITCH) {
                    return false;
                }
                draft.setPitch(t, pitch);
            }
            lineTold = true;
            return true;
        }

        private boolean takeHands() {
            if (end - start != draft.ticks) {
                return false;
            }
            for (int t = 0; t < draft.ticks; t++) {
                int hand = figureAt(start + t);
                if (!isHand(hand)) {
                    return false;
                }
                draft.hands |= hand << t;
            }
            draft.hands &= draft.notes;
            handsTold = true;
            return true;
        }

        private boolean takeNumber(int what) {
            int n = figureAt(start);
            if (end - start != 1 || !isNumber(what, n)) {
                return false;
            }
            draft.setNumber(what, n);
            return true;
        }

        private int figureAt(int place) {
            return letterAt(place) - '0';
        }

        /** The letter at a place; NONE behind the text's end. */
        private int letterAt(int place) {
            return place >= 0 && place < length ? letters[place] : NONE;
        }
    }
}

/**
 * Every line of one to four ticks, by every WAIT and REACH, every HAND of every NOTE: the answers
 * against what the document's words come to when every SHARE and every TABLE is looked at. It uses
 * neither the class's search nor PlainLine, so it is a third reading of parts 2 and 3.
 */
public final class EveryShortLineTest {
    private static final int MOST_TICKS = 4;
    private static final Checks CHECKS = new Checks();

    private final int[] pitch;
    private final int ticks;
    private final int notes;
    private final int wait;
    private final int reach;
    private final int bar;
    private final String text;
    private final SharedLine x;

    private EveryShortLineTest(String line, int wait, int reach, int bar) {
        this.ticks = line.length();
        this.pitch = line.chars().map(c -> c - '0').toArray();
        this.wait = wait;
        this.reach = reach;
        this.bar = bar;
        int bits = 0;
        for (int t = 0; t < ticks; t++) {
            bits |= pitch[t] == 0 ? 0 : 1 << t;
        }
        this.notes = bits;
        this.text = "line " + line + ";wait " + wait + ";reach " + reach + ";bar " + bar + ";";
        this.x = CHECKS.told(text);
    }

    public static void main(String[] args) {
        for (int ticks = 1; ticks <= MOST_TICKS; ticks++) {
            for (int number = 0; number < 1 << 3 * ticks; number++) {
                everyNumber(lineOf(number, ticks));
            }
        }
        CHECKS.end();
    }

    private static String lineOf(int number, int ticks) {
        StringBuilder line = new StringBuilder();
        for (int t = 0; t < ticks; t++) {
            line.append(number >> 3 * t & 7);
        }
        return line.toString();
    }

    private static void everyNumber(String line) {
        for (int wait = 1; wait <= 5; wait++) {
            for (int reach = 0; reach <= 6; reach++) {
                // Four ticks have pairs two and three apart: the BARS that tell them are mixed in.
                EveryShortLineTest one = new EveryShortLineTest(line, wait, reach, 2 + reach % 3);
                one.otherShares();
                one.tables();
                one.everyShare();
            }
        }
    }

    private void due(String call, int got, int want) {
        // The call's words are put together for wrong answers alone: there are millions.
        if (got == want) {
            CHECKS.asDue();
        } else {
            CHECKS.due(call + " of " + text + " with HANDS " + Checks.hands(x), got, want);
        }
    }

    // ---- the words, a SHARE being bits

    private static int handOf(int share, int t) {
        return share >> t & 1;
    }

    private boolean isNote(int t) {
        return (notes >> t & 1) == 1;
    }

    /** Whether u is the next NOTE of the HAND of the NOTE at t. */
    private boolean isNext(int share, int t, int u) {
        boolean next = isNote(t) && isNote(u) && handOf(share, t) == handOf(share, u);
        for (int between = t + 1; between < u; between++) {
            next &= !isNote(between) || handOf(share, between) != handOf(share, t);
        }
        return next;
    }

    private boolean isSoon(int t, int u, int anyWait) {
        return u - t < anyWait;
    }

    private boolean isFar(int t, int u) {
        return Math.max(pitch[t], pitch[u]) - Math.min(pitch[t], pitch[u]) > reach + (u - t);
    }

    private boolean isLawful(int share, int anyWait) {
        for (int t = 0; t < ticks; t++) {
            for (int u = t + 1; u < ticks; u++) {
                if (isNext(share, t, u) && (isSoon(t, u, anyWait) || isFar(t, u))) {
                    return false;
                }
            }
        }
        return true;
    }

    private int likeness(int share) {
        int many = 0;
        for (int t = 0; t + bar < ticks; t++) {
            boolean both = isNote(t) && isNote(t + bar);
            many += both && handOf(share, t) == handOf(share, t + bar) ? 1 : 0;
        }
        return many;
    }

    private int tilt(int share) {
        int tilt = 0;
        for (int t = 0; t < ticks; t++) {
            tilt += !isNote(t) ? 0 : handOf(share, t) == 0 ? 1 : -1;
        }
        return tilt;
    }

    private static boolean comesFirst(int share, int other) {
        int differ = share ^ other;
        return (share & Integer.lowestOneBit(differ)) == 0;
    }

    private boolean isShare(int bits) {
        return (bits & ~notes) == 0;
    }

    // ---- the questions

    private void otherShares() {
        int best = -1;
        int slowest = SharedLine.NONE;
        for (int share = 0; share < 1 << ticks; share++) {
            for (int anyWait = 1; isShare(share) && anyWait <= 5; anyWait++) {
                slowest = isLawful(share, anyWait) ? Math.max(slowest, anyWait) : slowest;
            }
            if (isShare(share) && isLawful(share, wait) && (best < 0 || isBetter(share, best))) {
                best = share;
            }
        }
        due("slowest()", x.slowest(), slowest);
        due("best(0)", x.best(0), best < 0 ? SharedLine.NOT : likeness(best));
        due("best(1)", x.best(1), best < 0 ? SharedLine.NOT : tilt(best));
        due("best(2)", x.best(2), best < 0 ? SharedLine.NOT : best);
    }

    private boolean isBetter(int share, int other) {
        if (likeness(share) != likeness(other)) {
            return likeness(share) > likeness(other);
        }
        int away = Math.abs(tilt(share));
        int otherAway = Math.abs(tilt(other));
        return away != otherAway ? away < otherAway : comesFirst(share, other);
    }

    private void tables() {
        int many = 0;
        int least = SharedLine.NONE;
        int[][] heard = new int[ticks][2];
        for (int table = 127; table >= 0; table--) {
            int share = 0;
            int used = 0;
            for (int t = 0; t < ticks; t++) {
                if (isNote(t)) {
                    used |= 1 << pitch[t] - 1;
                    share |= (table >> pitch[t] - 1 & 1) << t;
                }
            }
            if ((table & ~used) == 0 && isLawful(share, wait)) {
                many++;
                least = table;
                for (int t = 0; t < ticks; t++) {
                    heard[t][handOf(share, t)]++;
                }
            }
        }
        due("tables(0)", x.tables(0), many);
        due("tables(1)", x.tables(1), least);
        due("which(0)", x.which(0), many);
        due("which(1)", x.which(1), least);
        due("listen()", x.listen(), many < 2 ? SharedLine.NONE : tickToHear(heard));
        for (int t = 0; t < ticks; t++) {
            for (int hand = 0; hand < 2; hand++) {
                x.sees(t, hand);
                due("which(0), " + hand + " at " + t, x.which(0), isNote(t) ? heard[t][hand] : 0);
                x.forget();
            }
        }
    }

    private int tickToHear(int[][] heard) {
        int tick = SharedLine.NONE;
        for (int t = ticks - 1; t >= 0; t--) {
            boolean good = tick == SharedLine.NONE
                    || Math.max(heard[t][0], heard[t][1])
                    <= Math.max(heard[tick][0], heard[tick][1]);
            tick = isNote(t) && good ? t : tick;
        }
        return tick;
    }

    /** By turning one NOTE at a time, each SHARE comes once. */
    private void everyShare() {
        int share = 0;
        askedOf(share);
        for (int step = 1; step < 1 << ticks; step++) {
            int t = Integer.numberOfTrailingZeros(step);
            due("flips(" + t + ", " + t + ")", x.flips(t, t), isNote(t) ? 1 : SharedLine.STATE);
            share ^= 1 << t & notes;
            if (isNote(t)) {
                askedOf(share);
            }
        }
    }

    private void askedOf(int share) {
        int soon = 0;
        int far = 0;
        for (int t = 0; t < ticks; t++) {
            for (int u = t + 1; u < ticks; u++) {
                soon += isNext(share, t, u) && isSoon(t, u, wait) ? 1 : 0;
                far += isNext(share, t, u) && isFar(t, u) ? 1 : 0;
            }
        }
        due("share(0)", x.share(0), soon);
        due("share(1)", x.share(1), far);
        due("share(2)", x.share(2), likeness(share));
        due("share(3)", x.share(3), tilt(share));
        due("share(4)", x.share(4), soon + far == 0 ? 1 : 0);
        mended(share);
    }

    private void mended(int share) {
        int mended = -1;
        for (int other = 0; other < 1 << ticks; other++) {
            if (!isShare(other) || !isLawful(other, wait)) {
                continue;
            }
            int fewer = mended < 0 ? -1
                    : Integer.bitCount(other ^ share) - Integer.bitCount(mended ^ share);
            if (fewer < 0 || fewer == 0 && comesFirst(other, mended)) {
                mended = other;
            }
        }
        int changed = mended < 0 ? SharedLine.NONE : Integer.bitCount(mended ^ share);
        due("change()", x.change(), changed);
        due("mends()", x.mends(), changed <= 0 ? SharedLine.STATE : changed);
        if (changed > 0) {
            due("HANDS mended", Checks.hands(x), mended);
            x.undo();
        }
    }
}

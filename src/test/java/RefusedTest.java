import java.util.ArrayList;
import java.util.List;

/**
 * Every call with every number that is told last and that is told no more, on either side; every
 * call that is refused; and that nothing changes then, nor where a call only asks.
 */
public final class RefusedTest {
    private static final int BAD = BootsTurnHome.BAD, NO = BootsTurnHome.NO;
    private static final int FULL = BootsTurnHome.FULL, NONE = BootsTurnHome.NONE;
    private static final int LEAST = Integer.MIN_VALUE, MOST = Integer.MAX_VALUE;

    private interface Maker {
        BootsTurnHome make();
    }

    private interface Call {
        int on(BootsTurnHome boots);
    }

    private interface CallWithNumbers {
        int on(BootsTurnHome boots, int[] n);
    }

    /** How objects stand on which calls are tried out. */
    private enum Stand {
        FIRST(BootsTurnHome::new, 2, 5, 3),
        BARE(RefusedTest::bare, 1, 1, 0),
        CROWDED(RefusedTest::crowded, 4, 6, 6);

        final Maker maker;
        final int homes, men, orders;
        final List<Integer> untouched;

        Stand(Maker maker, int homes, int men, int orders) {
            this.maker = maker;
            this.homes = homes;
            this.men = men;
            this.orders = orders;
            this.untouched = shownBehind(maker, boots -> 0);
        }
    }

    public static void main(String[] args) {
        standsAreAsTold();
        for (Stand stand : Stand.values()) {
            lands(stand);
            orders(stand);
            rows(stand);
            seen(stand);
            leanings(stand);
        }
        writeFull();
        layNo();
        tieNo();
        swapAlike();
        undoNo();
        tellFull();
        seenFull();
        keepFull();
        backNo();
        faultNone();
        toldNone();
        towardNone();
        strayedNone();
        bringNone();
        homewardNone();
        villagesNone();
        badAheadOfAllElse();
        Check.finish("RefusedTest");
    }

    /** One home, one man, nothing else: all that can be empty is. */
    private static BootsTurnHome bare() {
        BootsTurnHome boots = Check.laid("h9,9;m0,0,0,0,0,3;");
        boots.wipe();
        return boots;
    }

    /** All that can be full is; the text, of 200 letters, says another d than the one that is laid. */
    private static BootsTurnHome crowded() {
        String homes = "h0,0;h15,15;h3,12;h8,2;";
        String men = "m6,6,2,0,0,0;m6,7,2,1,1,1;m7,6,4,2,2,2;m5,6,0,0,1,0;m6,5,6,1,1,4;m7,7,7,2,2,3;";
        String row = "o0,2;o3,1;o7,3;o4,0;o1,2;o2,1;";
        String text = homes + men + row + "d3;";
        BootsTurnHome boots = Check.laid(text);
        for (int free = 200 - text.length(); free > 0; free -= free % 3 == 0 ? 3 : 4) {
            Check.append(boots, free % 3 == 0 ? "d5;" : "d05;");
        }
        boots.order(1, 2);
        boots.keep();
        boots.tie(5, true);
        boots.swap(0, 3);
        boots.order(6, 1);
        boots.keep();
        for (int i = 0; i < 5; i++) {
            boots.tie(i, true);
        }
        boots.order(0, 3);
        boots.order(2, 1);
        boots.tie(1, false);
        for (int i = 0; i < 6; i++) {
            boots.seen(i, 6 - i, i);
        }
        return boots;
    }

    private static void standsAreAsTold() {
        int[][] counts = {
            {2, 5, 3, 0, 0, 0, 0, 0, 0, 0},
            {1, 1, 0, 0, 0, 0, 0, 0, 0, 0},
            {4, 6, 6, 4, 5, -1, 6, 8, 2, 200},
        };
        for (Stand stand : Stand.values()) {
            BootsTurnHome boots = stand.maker.make();
            for (int what = 0; what <= 9; what++) {
                if (what != 5) {
                    Check.due(stand + ": count(" + what + ")", boots.count(what), counts[stand.ordinal()][what]);
                }
            }
        }
        Check.due("the crowded text has no fault", crowded().fault(), NONE);
        BootsTurnHome anew = crowded();
        Check.due("and is laid", anew.lay(), 6);
        Check.holds("and what is laid is not what was", !Stand.CROWDED.untouched.equals(shownBehind(() -> anew, boots -> 0)));
    }

    private static List<Integer> shownBehind(Maker maker, Call call) {
        List<Integer> shown = new ArrayList<>();
        for (Shown part : Shown.values()) {
            BootsTurnHome boots = maker.make();
            call.on(boots);
            part.of(boots, shown);
        }
        return shown;
    }

    /** The call answers what is due, and what it was called on shows the same as if it had not been called. */
    private static void changesNothing(Stand stand, String name, int want, Call call) {
        Check.due(stand + ": " + name, call.on(stand.maker.make()), want);
        Check.holds(stand + ": " + name + " changes nothing", shownBehind(stand.maker, call).equals(stand.untouched));
    }

    /**
     * The lowest and the highest number of each argument are told; with one argument out of them, on
     * either side, the call is BAD and changes nothing.
     */
    private static void bounds(Stand stand, String name, boolean asks, CallWithNumbers call, int... bounds) {
        int[] lowest = new int[bounds.length / 2];
        int[] highest = new int[bounds.length / 2];
        for (int k = 0; k < lowest.length; k++) {
            lowest[k] = bounds[2 * k];
            highest[k] = bounds[2 * k + 1];
        }
        for (int[] told : new int[][] {lowest, highest}) {
            for (int k = 0; k < told.length; k++) {
                withOneTold(stand, name, asks, call, told, k, lowest[k]);
                withOneTold(stand, name, asks, call, told, k, highest[k]);
                for (int untold : new int[] {lowest[k] - 1, highest[k] + 1, LEAST, MOST}) {
                    int[] n = withOne(told, k, untold);
                    changesNothing(stand, called(name, n), BAD, boots -> call.on(boots, n));
                }
            }
        }
    }

    private static void withOneTold(Stand stand, String name, boolean asks, CallWithNumbers call, int[] told, int k, int number) {
        int[] n = withOne(told, k, number);
        int answer = call.on(stand.maker.make(), n);
        Check.holds(stand + ": " + called(name, n) + " is not BAD", answer != BAD);
        if (asks) {
            changesNothing(stand, called(name, n), answer, boots -> call.on(boots, n));
        }
    }

    private static int[] withOne(int[] told, int k, int number) {
        int[] n = told.clone();
        n[k] = number;
        return n;
    }

    private static String called(String name, int[] n) {
        StringBuilder text = new StringBuilder(name).append('(');
        for (int k = 0; k < n.length; k++) {
            text.append(k == 0 ? "" : ", ").append(n[k]);
        }
        return text.append(')').toString();
    }

    // ---- BAD: a number is none that is told

    private static void lands(Stand stand) {
        bounds(stand, "write", false, (boots, n) -> boots.write(n[0]), 32, 126);
        bounds(stand, "man", true, (boots, n) -> boots.man(n[0], n[1]), 0, stand.men - 1, 0, 8);
        bounds(stand, "home", true, (boots, n) -> boots.home(n[0], n[1]), 0, stand.homes - 1, 0, 1);
        bounds(stand, "toward", true, (boots, n) -> boots.toward(n[0], n[1], n[2], n[3]), 0, 15, 0, 15, 0, 15, 0, 15);
        for (int k : new int[] {-1, LEAST}) {
            changesNothing(stand, "told(" + k + ")", BAD, boots -> boots.told(k));
        }
        for (int k = 0; k < stand.orders; k++) {
            Check.holds(stand + ": told(" + k + ") is an order", stand.maker.make().told(k) >= 0);
        }
    }

    private static void orders(Stand stand) {
        bounds(stand, "order", false, (boots, n) -> boots.order(n[0], n[1]), 0, 7, 0, 9);
        bounds(stand, "tell", false, (boots, n) -> boots.tell(n[0], n[1]), 0, 7, 0, 9);
        for (int i : new int[] {-1, stand.men, 6, 32, LEAST, MOST}) {
            changesNothing(stand, "tie(" + i + ", true)", BAD, boots -> boots.tie(i, true));
            changesNothing(stand, "tie(" + i + ", false)", BAD, boots -> boots.tie(i, false));
        }
        for (int i : new int[] {-1, stand.men, LEAST, MOST}) {
            for (int j : new int[] {0, stand.men - 1, i}) {
                changesNothing(stand, "swap(" + i + ", " + j + ")", BAD, boots -> boots.swap(i, j));
                changesNothing(stand, "swap(" + j + ", " + i + ")", BAD, boots -> boots.swap(j, i));
            }
        }
    }

    private static void rows(Stand stand) {
        bounds(stand, "behind", true, (boots, n) -> boots.behind(n[0], n[1], n[2]), 0, stand.orders, 0, stand.men - 1, 0, 2);
        bounds(stand, "bring", true, (boots, n) -> boots.bring(n[0], n[1], n[2], n[3]), 0, stand.men - 1, 0, 15, 0, 15, 0, 3);
        bounds(stand, "pairs", true, (boots, n) -> boots.pairs(n[0]), -1, stand.men - 1);
        bounds(stand, "homeward", true, (boots, n) -> boots.homeward(n[0]), 0, stand.men - 1);
    }

    private static void seen(Stand stand) {
        if (stand.orders > 0) {
            bounds(stand, "seen", false, (boots, n) -> boots.seen(n[0], n[1], n[2]), 0, stand.men - 1, 1, stand.orders, 0, 7);
        } else {
            for (int t : new int[] {0, 1, 6, LEAST, MOST}) {
                changesNothing(stand, "seen(0, " + t + ", 0)", BAD, boots -> boots.seen(0, t, 0));
            }
        }
        bounds(stand, "villages", true, (boots, n) -> boots.villages(n[0], n[1]), 0, stand.men - 1, 0, 1);
    }

    private static void leanings(Stand stand) {
        bounds(stand, "strays", true, (boots, n) -> boots.strays(n[0]), 0, 1);
        bounds(stand, "lean", true, (boots, n) -> boots.lean(n[0]), 0, 1);
        bounds(stand, "storms", true, (boots, n) -> boots.storms(n[0], n[1], n[2], n[3], n[4]),
            0, stand.men - 1, 0, 15, 0, 15, 0, 10, 0, 1);
        bounds(stand, "march", true, (boots, n) -> boots.march(n[0], n[1], n[2]), 0, 9999, 1, 40, 0, 1);
        bounds(stand, "count", true, (boots, n) -> boots.count(n[0]), 0, 9);
    }

    // ---- FULL, NO, NONE

    private static void writeFull() {
        for (int letter : new int[] {32, ';', '0', 'h', 126}) {
            changesNothing(Stand.CROWDED, "write(" + letter + ") behind 200", FULL, boots -> boots.write(letter));
        }
    }

    private static void layNo() {
        changesNothing(Stand.FIRST, "lay() of an empty text", NO, BootsTurnHome::lay);
        changesNothing(Stand.BARE, "lay() of an empty text", NO, BootsTurnHome::lay);
        for (String text : new String[] {"h0,0;", "d3;o1,1;", "m0,0,0,0,0,0;", "h1,1;m2,2,0,0,0,0;x", "h1,1;m2,2,0,0,0,0"}) {
            // the text is the same on both sides: only lay() may make a difference
            Maker written = () -> {
                BootsTurnHome boots = crowded();
                boots.wipe();
                Check.append(boots, text);
                return boots;
            };
            Check.due("lay() of " + text, written.make().lay(), NO);
            Check.holds("lay() of " + text + " changes nothing",
                shownBehind(written, BootsTurnHome::lay).equals(shownBehind(written, boots -> 0)));
        }
    }

    private static void tieNo() {
        for (int i = 0; i < 6; i++) {
            int who = i;
            boolean tied = i != 1;
            changesNothing(Stand.CROWDED, "tie(" + i + ", " + tied + "), he is already", NO, boots -> boots.tie(who, tied));
        }
        changesNothing(Stand.BARE, "tie(0, false), he is already", NO, boots -> boots.tie(0, false));
        changesNothing(Stand.FIRST, "tie(4, false), he is already", NO, boots -> boots.tie(4, false));
    }

    private static void swapAlike() {
        for (Stand stand : Stand.values()) {
            for (int i = 0; i < stand.men; i++) {
                int who = i;
                changesNothing(stand, "swap(" + i + ", " + i + ")", BAD, boots -> boots.swap(who, who));
            }
        }
    }

    private static void undoNo() {
        changesNothing(Stand.FIRST, "undo()", NO, BootsTurnHome::undo);
        changesNothing(Stand.BARE, "undo()", NO, BootsTurnHome::undo);
    }

    private static void tellFull() {
        changesNothing(Stand.CROWDED, "tell(0, 0)", FULL, boots -> boots.tell(0, 0));
        changesNothing(Stand.CROWDED, "tell(7, 9)", FULL, boots -> boots.tell(7, 9));
    }

    private static void seenFull() {
        changesNothing(Stand.CROWDED, "seen(0, 1, 0)", FULL, boots -> boots.seen(0, 1, 0));
        // nor where the same was seen before
        changesNothing(Stand.CROWDED, "seen(5, 1, 5)", FULL, boots -> boots.seen(5, 1, 5));
    }

    private static void keepFull() {
        changesNothing(Stand.CROWDED, "keep()", FULL, BootsTurnHome::keep);
    }

    private static void backNo() {
        changesNothing(Stand.FIRST, "back()", NO, BootsTurnHome::back);
        changesNothing(Stand.BARE, "back()", NO, BootsTurnHome::back);
        // nothing is undone by a back that is refused
        BootsTurnHome boots = new BootsTurnHome();
        boots.order(0, 1);
        Check.due("back()", boots.back(), NO);
        Check.due("count(7)", boots.count(7), 1);
    }

    private static void faultNone() {
        for (Stand stand : Stand.values()) {
            changesNothing(stand, "fault()", NONE, BootsTurnHome::fault);
        }
    }

    private static void toldNone() {
        for (Stand stand : Stand.values()) {
            for (int k : new int[] {stand.orders, 6, 7, MOST}) {
                changesNothing(stand, "told(" + k + ")", NONE, boots -> boots.told(k));
            }
        }
    }

    private static void towardNone() {
        changesNothing(Stand.CROWDED, "toward(0, 0, 0, 0)", NONE, boots -> boots.toward(0, 0, 0, 0));
        changesNothing(Stand.CROWDED, "toward(15, 15, 15, 15)", NONE, boots -> boots.toward(15, 15, 15, 15));
    }

    private static void strayedNone() {
        changesNothing(Stand.BARE, "strayed()", NONE, BootsTurnHome::strayed);
        changesNothing(Stand.FIRST, "strayed()", 3, BootsTurnHome::strayed);
    }

    private static void bringNone() {
        for (int k = 0; k <= 3; k++) {
            int which = k;
            changesNothing(Stand.BARE, "bring(0, 10, 0, " + k + ")", NONE, boots -> boots.bring(0, 10, 0, which));
        }
        // he is there already: 0 orders, so there is no first one
        changesNothing(Stand.BARE, "bring(0, 0, 0, 1)", NONE, boots -> boots.bring(0, 0, 0, 1));
    }

    private static void homewardNone() {
        changesNothing(Stand.BARE, "homeward(0)", NONE, boots -> boots.homeward(0));
    }

    private static void villagesNone() {
        // nobody looks two ways behind one order
        BootsTurnHome boots = crowded();
        boots.forget();
        boots.seen(0, 1, 0);
        boots.seen(0, 1, 4);
        Check.due("villages(0, 0)", boots.villages(0, 0), 0);
        Check.due("villages(0, 1)", boots.villages(0, 1), NONE);
        Check.due("villages(1, 0)", boots.villages(1, 0), 256);
    }

    /** "Of several the first": a number that is not told comes ahead of what is full, is none, is not so. */
    private static void badAheadOfAllElse() {
        changesNothing(Stand.CROWDED, "write(31), full", BAD, boots -> boots.write(31));
        changesNothing(Stand.CROWDED, "tell(8, 0), full", BAD, boots -> boots.tell(8, 0));
        changesNothing(Stand.CROWDED, "seen(0, 7, 0), full", BAD, boots -> boots.seen(0, 7, 0));
        changesNothing(Stand.BARE, "toward(16, 16, 16, 16), itself", BAD, boots -> boots.toward(16, 16, 16, 16));
        changesNothing(Stand.BARE, "bring(0, 15, 15, 4), too far", BAD, boots -> boots.bring(0, 15, 15, 4));
        changesNothing(Stand.BARE, "tie(1, false), not tied", BAD, boots -> boots.tie(1, false));
    }
}

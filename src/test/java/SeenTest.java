/** Promises 21 to 23: seen, forget, villages. */
public final class SeenTest {
    private static final int BAD = BootsTurnHome.BAD, FULL = BootsTurnHome.FULL, NONE = BootsTurnHome.NONE;
    private static final int LEAST = Integer.MIN_VALUE, MOST = Integer.MAX_VALUE;

    public static void main(String[] args) {
        seen();
        seenRefused();
        forget();
        oneHalt();
        severalSeen();
        ofAnotherMan();
        fromNowOn();
        asIfPlain();
        villagesRefused();
        Check.finish("SeenTest");
    }

    private static void seen() {
        BootsTurnHome boots = new BootsTurnHome();
        for (int k = 1; k <= 6; k++) {
            Check.due("seen, the " + k + "-th", boots.seen(k % 5, 1 + k % 3, k), k);
        }
        Check.due("seen, the 7-th", boots.seen(0, 1, 0), FULL);
        Check.due("seen(0, 4, 0) when full", boots.seen(0, 4, 0), BAD);
        Check.due("count(6)", boots.count(6), 6);
        boots.tell(0, 1);
        Check.due("count(6): telling forgets nothing", boots.count(6), 6);
        boots.forget();
        Check.due("seen(4, 4, 7) behind tell", boots.seen(4, 4, 7), 1);
        Check.due("seen(4, 4, 7) twice", boots.seen(4, 4, 7), 2);
    }

    private static void seenRefused() {
        BootsTurnHome boots = new BootsTurnHome();
        for (int bad : new int[] {-1, LEAST, MOST}) {
            Check.due("seen: i " + bad, boots.seen(bad, 1, 0), BAD);
            Check.due("seen: t " + bad, boots.seen(0, bad, 0), BAD);
            Check.due("seen: faced " + bad, boots.seen(0, 1, bad), BAD);
        }
        Check.due("seen(5, 1, 0)", boots.seen(5, 1, 0), BAD);
        Check.due("seen(0, 0, 0)", boots.seen(0, 0, 0), BAD);
        Check.due("seen(0, 4, 0)", boots.seen(0, 4, 0), BAD);
        Check.due("seen(0, 1, 8)", boots.seen(0, 1, 8), BAD);
        Check.due("count(6)", boots.count(6), 0);
        Check.due("seen(0, 3, 7)", boots.seen(0, 3, 7), 1);
        boots.noRow();
        Check.due("seen(0, 1, 0) without a row", boots.seen(0, 1, 0), BAD);
    }

    private static void forget() {
        BootsTurnHome boots = new BootsTurnHome();
        Check.due("forget()", boots.forget(), 0);
        boots.seen(0, 1, 4);
        boots.seen(0, 2, 4);
        Check.due("villages(0, 0)", boots.villages(0, 0), 0);
        Check.due("forget()", boots.forget(), 2);
        Check.due("count(6)", boots.count(6), 0);
        Check.due("count(2): the row stays", boots.count(2), 3);
        Check.due("villages(0, 0)", boots.villages(0, 0), 256);
        Check.due("forget()", boots.forget(), 0);
    }

    /** One who halts at 8,8 and looked north: 32 cells are north, 107 to the left, 116 to the right, one is his. */
    private static void oneHalt() {
        int[] many = {33, 116, 0, 0, 0, 0, 0, 107};
        int[] first = {5, 12, NONE, NONE, NONE, NONE, NONE, 0};
        for (int faced = 0; faced < 8; faced++) {
            BootsTurnHome boots = Check.laid("h0,0;m8,8,0,0,0,0;m8,8,0,0,0,0;o0,0;");
            Check.due("villages(0, 0), nothing seen", boots.villages(0, 0), 256);
            Check.due("villages(0, 1), nothing seen", boots.villages(0, 1), 0);
            boots.seen(0, 1, faced);
            Check.due("villages(0, 0), seen " + faced, boots.villages(0, 0), many[faced]);
            Check.due("villages(0, 1), seen " + faced, boots.villages(0, 1), first[faced]);
            Check.due("villages(1, 0), seen of 0 alone", boots.villages(1, 0), 256);
        }
        // one in a corner who looks out of the land would turn toward any other cell
        BootsTurnHome corner = Check.laid("h0,0;m15,15,3,0,0,0;o0,9;");
        corner.seen(0, 1, 3);
        Check.due("villages(0, 0)", corner.villages(0, 0), 1);
        Check.due("villages(0, 1)", corner.villages(0, 1), 255);
    }

    private static void severalSeen() {
        // turned to the left behind one halt, no more behind a second one
        BootsTurnHome boots = Check.laid("h0,0;m8,8,0,0,0,0;o0,0;o0,0;");
        boots.seen(0, 1, 7);
        boots.seen(0, 2, 7);
        Check.due("villages(0, 0): the north-west", boots.villages(0, 0), 40);
        Check.due("villages(0, 1)", boots.villages(0, 1), 0);
        boots.seen(0, 2, 6);
        Check.due("villages(0, 0): one way or the other", boots.villages(0, 0), 0);
        Check.due("villages(0, 1)", boots.villages(0, 1), NONE);
        boots.forget();
        boots.seen(0, 2, 6);
        Check.due("villages(0, 0): the west, south-west", boots.villages(0, 0), 67);
        Check.due("villages(0, 1): 0,5", boots.villages(0, 1), 80);
    }

    private static void ofAnotherMan() {
        BootsTurnHome boots = Check.laid("h0,0;m8,8,0,0,0,0;m8,8,7,0,0,0;o0,0;o0,0;o0,0;o0,0;o0,0;o0,0;");
        boots.seen(1, 1, 6);
        Check.due("villages(0, 0)", boots.villages(0, 0), 256);
        boots.seen(0, 6, 0);
        Check.due("villages(0, 0)", boots.villages(0, 0), 33);
        // one who looks north-west turns to the left for the west, the south-west and the south
        Check.due("villages(1, 0)", boots.villages(1, 0), 92);
        Check.due("villages(1, 1)", boots.villages(1, 1), 80);
    }

    private static void fromNowOn() {
        BootsTurnHome boots = Check.laid("h0,0;m8,8,0,0,0,3;o0,0;");
        boots.seen(0, 1, 1);
        Check.due("villages(0, 0)", boots.villages(0, 0), 116);
        boots.order(1, 0);
        // he looks north-east now: 35 cells are there, one is his
        Check.due("villages(0, 0), looking north-east", boots.villages(0, 0), 36);
        boots.order(4, 0);
        Check.due("villages(0, 0), looking south-west", boots.villages(0, 0), 0);
        boots.undo();
        boots.undo();
        Check.due("villages(0, 0)", boots.villages(0, 0), 116);
        Check.due("count(6)", boots.count(6), 1);
    }

    private static void asIfPlain() {
        for (int kind = 0; kind < 5; kind++) {
            BootsTurnHome boots = Check.laid("h8,0;h8,1;m8,8,0,0,1," + kind + ";o0,0;");
            boots.tie(0, true);
            boots.seen(0, 1, 7);
            Check.due("villages(0, 0), kind " + kind, boots.villages(0, 0), 107);
        }
    }

    private static void villagesRefused() {
        BootsTurnHome boots = new BootsTurnHome();
        for (int bad : new int[] {-1, 5, LEAST, MOST}) {
            Check.due("villages: i " + bad, boots.villages(bad, 0), BAD);
            Check.due("villages: what " + bad, boots.villages(0, bad), BAD);
        }
        Check.due("villages(0, 2)", boots.villages(0, 2), BAD);
        boots.seen(0, 1, 4);
        Check.due("villages(0, 2), none left", boots.villages(0, 2), BAD);
    }
}

/** Promises 10 to 15: order, tie, swap, undo, tell, noRow. */
public final class OrdersTest {
    private static final int BAD = BootsTurnHome.BAD, NO = BootsTurnHome.NO;
    private static final int FULL = BootsTurnHome.FULL, NONE = BootsTurnHome.NONE;
    private static final int LEAST = Integer.MIN_VALUE, MOST = Integer.MAX_VALUE;

    public static void main(String[] args) {
        steps();
        edges();
        halts();
        newBootsAtEachSecondHalt();
        whoDoesNotTurn();
        lost();
        orderRefused();
        tie();
        swap();
        undoEach();
        undoEight();
        tell();
        noRow();
        Check.finish("OrdersTest");
    }

    /** In clogs, whose boots never turn. */
    private static void steps() {
        int[] behind = {80500, 110501, 110802, 111103, 81104, 51105, 50806, 50507};
        for (int looks = 0; looks < 8; looks++) {
            for (int r = 0; r < 8; r++) {
                BootsTurnHome boots = Check.laid("h0,0;m8,8," + looks + ",0,0,3;");
                Check.due("order(" + r + ", 3)", boots.order(r, 3), 0);
                Check.due("behind order(" + r + ", 3) of one who looks " + looks, Check.place(boots, 0), behind[(looks + r) % 8]);
                Check.due("count(3)", boots.count(3), 1);
            }
        }
        BootsTurnHome boots = Check.laid("h0,0;m3,8,2,0,0,3;");
        boots.order(0, 9);
        Check.due("nine steps", Check.place(boots, 0), 120802);
        boots.order(0, 0);
        Check.due("no step", Check.place(boots, 0), 120802);
    }

    private static void edges() {
        // who would step out stays, and does not slip along the edge
        String[] men = {"8,2,0", "13,2,1", "13,8,2", "13,14,3", "8,13,4", "1,13,5", "2,8,6", "2,1,7", "15,8,1", "8,0,7"};
        int[] behind = {80000, 150001, 150802, 141503, 81504, 1405, 806, 10007, 150801, 80007};
        for (int m = 0; m < men.length; m++) {
            BootsTurnHome boots = Check.laid("h5,5;m" + men[m] + ",0,0,3;");
            boots.order(0, 5);
            Check.due("from " + men[m], Check.place(boots, 0), behind[m]);
        }
    }

    /** The home is just north; how one looks behind a halt, by how one looked. */
    private static void halts() {
        int[][] behind = {
            {0, 0, 1, 2, 5, 6, 7, 0},
            {0, 0, 0, 1, 6, 7, 0, 0},
            {0, 1, 2, 3, 4, 5, 6, 7},
            {0, 1, 2, 3, 4, 5, 6, 7},
            {7, 2, 3, 4, 4, 4, 5, 6},
        };
        for (int kind = 0; kind < 5; kind++) {
            for (int looks = 0; looks < 8; looks++) {
                BootsTurnHome boots = Check.laid("h8,0;m8,8," + looks + ",0,0," + kind + ";");
                boots.order(0, 0);
                Check.due("kind " + kind + " looking " + looks, boots.man(0, 2), behind[kind][looks]);
            }
        }
        // he turns toward it from where he is behind the march: 5,4 lies south-east of 2,2 and south of 4,0
        BootsTurnHome boots = Check.laid("h5,4;m2,2,1,0,0,0;");
        boots.order(0, 2);
        Check.due("behind the march", Check.place(boots, 0), 40002);
        boots.order(0, 0);
        boots.order(0, 0);
        boots.order(0, 0);
        Check.due("looks south", boots.man(0, 2), 4);
    }

    private static void newBootsAtEachSecondHalt() {
        BootsTurnHome boots = Check.laid("h8,0;m8,8,4,0,0,2;");
        int[] looks = {4, 5, 5, 6, 6, 7, 7, 0, 0, 0};
        for (int halt = 0; halt < looks.length; halt++) {
            boots.order(0, 0);
            Check.due("behind halt " + (halt + 1), boots.man(0, 2), looks[halt]);
        }
        // an order undone was none
        boots = Check.laid("h8,0;m8,8,4,0,0,2;");
        boots.order(0, 0);
        boots.undo();
        boots.order(0, 0);
        Check.due("first halt again", boots.man(0, 2), 4);
        boots.order(0, 0);
        Check.due("second halt", boots.man(0, 2), 5);
    }

    private static void whoDoesNotTurn() {
        // two homes, tied, at home
        BootsTurnHome boots = Check.laid("h8,0;h8,0;m8,8,2,0,1,0;m8,8,2,0,0,0;m8,0,2,0,0,0;m8,0,2,0,0,4;");
        boots.tie(1, true);
        boots.order(0, 0);
        for (int i = 0; i < 4; i++) {
            Check.due("man(" + i + ", 2)", boots.man(i, 2), 2);
        }
        boots.tie(1, false);
        boots.swap(0, 1);
        boots.order(0, 0);
        Check.due("man 1 has two homes' boots now", boots.man(1, 2), 2);
        boots.swap(0, 1);
        boots.order(0, 0);
        Check.due("man 1 turns", boots.man(1, 2), 1);
        boots.order(0, 1);
        Check.due("away from home, man 2 turns", boots.man(2, 2), 3);
        Check.due("just away from home, man 3 is contrary", boots.man(3, 2), 2);
        boots.order(1, 0);
        Check.due("no more just away from home, man 3 turns", boots.man(3, 2), 2);
    }

    private static void lost() {
        BootsTurnHome boots = Check.laid("h0,0;m3,3,2,0,0,3;m3,4,6,0,0,3;m3,5,2,0,0,3;m3,6,4,0,0,3;d2;");
        Check.due("count(5)", boots.count(5), 1);
        Check.due("order(0, 1)", boots.order(0, 1), 1);
        Check.due("man(1, 7)", boots.man(1, 7), 0);
        Check.due("man(3, 7)", boots.man(3, 7), 1);
        Check.due("order(0, 1)", boots.order(0, 1), 2);
        Check.due("man(1, 7)", boots.man(1, 7), 1);
        Check.due("man(2, 7)", boots.man(2, 7), 0);
        Check.due("man(0, 7)", boots.man(0, 7), 0);
        Check.due("count(5)", boots.count(5), 2);
    }

    private static void orderRefused() {
        BootsTurnHome boots = new BootsTurnHome();
        for (int bad : new int[] {-1, 8, 10, LEAST, MOST}) {
            Check.due("order(" + bad + ", 1)", boots.order(bad, 1), BAD);
        }
        for (int bad : new int[] {-1, 10, LEAST, MOST}) {
            Check.due("order(0, " + bad + ")", boots.order(0, bad), BAD);
        }
        Check.due("count(3)", boots.count(3), 0);
        Check.due("count(7)", boots.count(7), 0);
        Check.due("place of 0", Check.place(boots, 0), 80800);
        Check.due("order(7, 9)", boots.order(7, 9), 0);
        Check.due("count(3)", boots.count(3), 1);
    }

    private static void tie() {
        BootsTurnHome boots = new BootsTurnHome();
        Check.due("tie(0, false)", boots.tie(0, false), NO);
        Check.due("tie(0, true)", boots.tie(0, true), 1);
        Check.due("tie(0, true)", boots.tie(0, true), NO);
        Check.due("tie(4, true)", boots.tie(4, true), 2);
        Check.due("man(0, 6)", boots.man(0, 6), 1);
        Check.due("man(3, 6)", boots.man(3, 6), 0);
        Check.due("man(4, 6)", boots.man(4, 6), 1);
        Check.due("tie(0, false)", boots.tie(0, false), 1);
        Check.due("tie(0, false)", boots.tie(0, false), NO);
        Check.due("man(0, 6)", boots.man(0, 6), 0);
        Check.due("count(4)", boots.count(4), 1);
        Check.due("count(7)", boots.count(7), 3);
        for (int bad : new int[] {-1, 5, 32, LEAST, MOST}) {
            Check.due("tie(" + bad + ", true)", boots.tie(bad, true), BAD);
            Check.due("tie(" + bad + ", false)", boots.tie(bad, false), BAD);
        }
        Check.due("count(4)", boots.count(4), 1);
        Check.due("count(7)", boots.count(7), 3);
        // a tied man marches as all do
        boots.order(4, 2);
        Check.due("place of 4", Check.place(boots, 4), 80904);
    }

    private static void swap() {
        BootsTurnHome boots = Check.laid("h0,0;h1,1;h2,2;m5,5,0,0,2,0;m6,6,0,1,1,0;m7,7,0,2,0,0;");
        Check.due("swap(0, 1)", boots.swap(0, 1), 1);
        Check.due("man(0, 4)", boots.man(0, 4), 1);
        Check.due("man(1, 4)", boots.man(1, 4), 2);
        Check.due("man(0, 3)", boots.man(0, 3), 0);
        Check.due("swap(1, 2)", boots.swap(1, 2), 0);
        Check.due("man(1, 4)", boots.man(1, 4), 0);
        Check.due("man(2, 4)", boots.man(2, 4), 2);
        Check.due("count(7)", boots.count(7), 2);
        for (int bad : new int[] {-1, 3, LEAST, MOST}) {
            Check.due("swap(" + bad + ", 1)", boots.swap(bad, 1), BAD);
            Check.due("swap(1, " + bad + ")", boots.swap(1, bad), BAD);
            Check.due("swap(" + bad + ", " + bad + ")", boots.swap(bad, bad), BAD);
        }
        Check.due("swap(1, 1)", boots.swap(1, 1), BAD);
        Check.due("count(7)", boots.count(7), 2);
    }

    private static void undoEach() {
        BootsTurnHome boots = new BootsTurnHome();
        Check.due("undo()", boots.undo(), NO);
        boots.order(2, 3);
        boots.tie(2, true);
        boots.swap(0, 1);
        boots.tie(2, false);
        Check.due("undo() of untying", boots.undo(), 3);
        Check.due("man(2, 6)", boots.man(2, 6), 1);
        Check.due("undo() of a change", boots.undo(), 2);
        Check.due("man(0, 4)", boots.man(0, 4), 0);
        Check.due("man(1, 4)", boots.man(1, 4), 1);
        Check.due("undo() of tying", boots.undo(), 1);
        Check.due("man(2, 6)", boots.man(2, 6), 0);
        Check.due("count(3)", boots.count(3), 1);
        Check.due("undo() of an order", boots.undo(), 0);
        Check.due("place of 0", Check.place(boots, 0), 80800);
        Check.due("place of 2", Check.place(boots, 2), 70800);
        Check.due("count(3)", boots.count(3), 0);
        Check.due("undo()", boots.undo(), NO);
        // neither what is told nor what is seen is undone
        boots.order(0, 1);
        boots.tell(0, 1);
        boots.seen(0, 1, 1);
        boots.undo();
        Check.due("count(2)", boots.count(2), 4);
        Check.due("count(6)", boots.count(6), 1);
    }

    private static void undoEight() {
        BootsTurnHome boots = Check.laid("h0,0;m0,8,2,0,0,3;");
        for (int k = 1; k <= 12; k++) {
            boots.order(0, 1);
            Check.due("count(7)", boots.count(7), Math.min(8, k));
        }
        for (int k = 7; k >= 0; k--) {
            Check.due("undo()", boots.undo(), k);
            Check.due("place of 0", Check.place(boots, 0), 10000 * (4 + k) + 802);
        }
        Check.due("undo()", boots.undo(), NO);
        Check.due("count(3)", boots.count(3), 4);
        boots.order(0, 1);
        Check.due("count(7)", boots.count(7), 1);
        Check.due("undo()", boots.undo(), 0);
        Check.due("place of 0", Check.place(boots, 0), 40802);
    }

    private static void tell() {
        BootsTurnHome boots = new BootsTurnHome();
        for (int bad : new int[] {-1, 8, LEAST, MOST}) {
            Check.due("tell(" + bad + ", 1)", boots.tell(bad, 1), BAD);
        }
        for (int bad : new int[] {-1, 10, LEAST, MOST}) {
            Check.due("tell(0, " + bad + ")", boots.tell(0, bad), BAD);
        }
        Check.due("tell(7, 9)", boots.tell(7, 9), 4);
        Check.due("told(3)", boots.told(3), 79);
        Check.due("tell(0, 0)", boots.tell(0, 0), 5);
        Check.due("tell(3, 5)", boots.tell(3, 5), 6);
        Check.due("told(5)", boots.told(5), 35);
        Check.due("tell(1, 1)", boots.tell(1, 1), FULL);
        Check.due("tell(8, 1)", boots.tell(8, 1), BAD);
        Check.due("count(2)", boots.count(2), 6);
        Check.due("count(3): telling gives no order", boots.count(3), 0);
        Check.due("count(7)", boots.count(7), 0);
    }

    private static void noRow() {
        BootsTurnHome boots = new BootsTurnHome();
        boots.seen(0, 1, 7);
        Check.due("noRow()", boots.noRow(), 3);
        Check.due("count(2)", boots.count(2), 0);
        Check.due("count(6)", boots.count(6), 0);
        Check.due("told(0)", boots.told(0), NONE);
        Check.due("noRow()", boots.noRow(), 0);
        Check.due("tell(1, 2)", boots.tell(1, 2), 1);
        Check.due("told(0)", boots.told(0), 12);
        Check.due("told(1)", boots.told(1), NONE);
    }
}

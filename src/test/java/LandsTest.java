/** Promises 1 to 9: a new object, write, wipe, fault, lay, man, home, told, toward. */
public final class LandsTest {
    private static final int BAD = BootsTurnHome.BAD, NO = BootsTurnHome.NO;
    private static final int FULL = BootsTurnHome.FULL, NONE = BootsTurnHome.NONE;
    private static final int LEAST = Integer.MIN_VALUE, MOST = Integer.MAX_VALUE;

    public static void main(String[] args) {
        newObject();
        write();
        wipe();
        faultOfForm();
        faultOfNumbers();
        faultOfMany();
        lay();
        layForgets();
        layRefused();
        man();
        home();
        told();
        toward();
        Check.finish("LandsTest");
    }

    private static void newObject() {
        BootsTurnHome boots = new BootsTurnHome();
        int[] counts = {2, 5, 3, 0, 0, 0, 0, 0, 0, 0};
        for (int what = 0; what < counts.length; what++) {
            Check.due("new: count(" + what + ")", boots.count(what), counts[what]);
        }
        int[] places = {80800, 80900, 70800, 90800, 80700};
        int[] left = {0, 0, 1, 0, 1};
        int[] right = {0, 1, 1, 0, 1};
        int[] kind = {0, 0, 1, 2, 4};
        for (int i = 0; i < 5; i++) {
            Check.due("new: place of " + i, Check.place(boots, i), places[i]);
            Check.due("new: man(" + i + ", 3)", boots.man(i, 3), left[i]);
            Check.due("new: man(" + i + ", 4)", boots.man(i, 4), right[i]);
            Check.due("new: man(" + i + ", 5)", boots.man(i, 5), kind[i]);
        }
        Check.due("new: home(0, 0)", boots.home(0, 0), 2);
        Check.due("new: home(0, 1)", boots.home(0, 1), 13);
        Check.due("new: home(1, 0)", boots.home(1, 0), 12);
        Check.due("new: home(1, 1)", boots.home(1, 1), 3);
        Check.due("new: told(0)", boots.told(0), 3);
        Check.due("new: told(1)", boots.told(1), 22);
        Check.due("new: told(2)", boots.told(2), 14);
        Check.due("new: undo()", boots.undo(), NO);
        Check.due("new: back()", boots.back(), NO);
        Check.due("new: fault()", boots.fault(), NONE);
        // more than 4 away from man 0, who turns to the south-west at three halts, is lost
        boots.tie(2, true);
        for (int halt = 0; halt < 3; halt++) {
            boots.order(0, 0);
        }
        boots.order(0, 2);
        Check.due("new: place of 0", Check.place(boots, 0), 61005);
        Check.due("new: place of 2, 4 apart", Check.place(boots, 2), 70600);
        Check.due("new: man(2, 7)", boots.man(2, 7), 0);
        boots.undo();
        boots.order(0, 3);
        Check.due("new: place of 0", Check.place(boots, 0), 51105);
        Check.due("new: place of 1, 5 apart", Check.place(boots, 1), 80600);
        Check.due("new: man(1, 7)", boots.man(1, 7), 1);
    }

    private static void write() {
        BootsTurnHome boots = new BootsTurnHome();
        for (int letter : new int[] {31, 127, 0, -1, 256 + 'h', LEAST, MOST}) {
            Check.due("write(" + letter + ")", boots.write(letter), BAD);
        }
        Check.due("count(9)", boots.count(9), 0);
        Check.due("write(32)", boots.write(32), 1);
        Check.due("write(126)", boots.write(126), 2);
        for (int length = 3; length <= 200; length++) {
            Check.due("write", boots.write('h'), length);
        }
        Check.due("write at 200", boots.write('h'), FULL);
        Check.due("write(127) at 200", boots.write(127), BAD);
        Check.due("count(9)", boots.count(9), 200);
    }

    private static void wipe() {
        BootsTurnHome boots = Check.written("h1,1;m2,2,0,0,0,0;");
        Check.due("wipe()", boots.wipe(), 18);
        Check.due("count(9)", boots.count(9), 0);
        Check.due("wipe()", boots.wipe(), 0);
        Check.due("lay()", boots.lay(), NO);
        Check.append(boots, "x");
        Check.due("fault()", boots.fault(), 0);
        boots.wipe();
        Check.due("fault()", boots.fault(), NONE);
    }

    private static void fault(String text, int want) {
        BootsTurnHome boots = Check.written(text);
        Check.due("fault() of " + text, boots.fault(), want);
        Check.due("count(9)", boots.count(9), text.length());
        Check.due("count(1): a fault lays nothing", boots.count(1), 5);
    }

    private static void faultOfForm() {
        fault("", NONE);
        fault("h1,1;", NONE);
        fault("d1;", NONE);
        fault("o0,0;", NONE);
        fault("h01,09;d04;o07,09;", NONE);
        fault("h1,1", 0);
        fault("h1,1,", 0);
        fault("h1,", 0);
        fault("h", 0);
        fault("d4;h1,1;h2", 8);
        fault("d4;h1;", 3);
        fault("d4;h1,1,1;", 3);
        fault("d4;h1;1;", 3);
        fault("d4;h,1;", 3);
        fault("d4;h1,;", 3);
        fault("d4;h001,1;", 3);
        // the sign behind 9 is no figure, though it would be a 10
        fault("d4;h:,1;", 3);
        fault("d4;h0:,1;", 3);
        fault("d4;h1,:;", 3);
        fault("d4;h/1,1;", 3);
        fault("d4;h1,001;", 3);
        fault("d4; h1,1;", 3);
        fault("d4;h1, 1;", 3);
        fault("d4;H1,1;", 3);
        fault("d4;x1;", 3);
        fault("d4;;", 3);
        fault("d4;1;", 3);
        fault("d4;h-1,1;", 3);
        fault("d4;d1,2;", 3);
        fault("d4;o1;", 3);
        fault("d4;x;h99,99;", 3);
        fault("h1,1;m1,1,0,0,0;", 5);
        fault("h1,1;m1,1,0,0,0,0,0;", 5);
        fault("h1,1;m1,1,0,0,0,0;", NONE);
    }

    private static void faultOfNumbers() {
        fault("h15,15;h0,0;", NONE);
        fault("h0,0;h16,0;", 5);
        fault("h0,0;h0,16;", 5);
        fault("d1;d15;", NONE);
        fault("d1;d0;", 3);
        fault("d1;d16;", 3);
        fault("o7,9;", NONE);
        fault("o0,0;o8,0;", 5);
        fault("o0,0;o0,10;", 5);
        fault("h0,0;m15,15,7,0,0,4;", NONE);
        fault("h0,0;m16,0,0,0,0,0;", 5);
        fault("h0,0;m0,16,0,0,0,0;", 5);
        fault("h0,0;m0,0,8,0,0,0;", 5);
        fault("h0,0;m0,0,0,1,0,0;", 5);
        fault("h0,0;m0,0,0,0,1,0;", 5);
        fault("h0,0;m0,0,0,0,0,5;", 5);
        fault("h0,0;h0,0;m0,0,0,1,1,0;", NONE);
        // both homes are told ahead, not behind
        fault("m0,0,0,0,0,0;h0,0;", 0);
        fault("h0,0;m0,0,0,0,1,0;h0,0;", 5);
    }

    private static void faultOfMany() {
        fault("h0,0;h0,0;h0,0;h0,0;", NONE);
        fault("h0,0;h0,0;h0,0;h0,0;h0,0;", 20);
        fault("o0,0;o0,0;o0,0;o0,0;o0,0;o0,0;", NONE);
        fault("o0,0;o0,0;o0,0;o0,0;o0,0;o0,0;o0,0;", 30);
        String man = "m0,0,0,0,0,0;";
        fault("h0,0;" + man.repeat(6), NONE);
        fault("h0,0;" + man.repeat(7), 5 + 6 * 13);
        fault("d1;".repeat(66), NONE);
        fault("d1;".repeat(66) + "d1", 198);
    }

    private static void lay() {
        BootsTurnHome boots = Check.written("d2;h3,4;m5,6,7,0,0,3;h8,9;m10,11,2,1,0,1;o4,5;d9;o6,7;");
        Check.due("lay()", boots.lay(), 2);
        Check.due("count(0)", boots.count(0), 2);
        Check.due("count(1)", boots.count(1), 2);
        Check.due("count(2)", boots.count(2), 2);
        Check.due("count(9): the text stays", boots.count(9), 54);
        Check.due("place of 0", Check.place(boots, 0), 50607);
        Check.due("place of 1", Check.place(boots, 1), 101102);
        Check.due("man(1, 3)", boots.man(1, 3), 1);
        Check.due("man(1, 4)", boots.man(1, 4), 0);
        Check.due("man(1, 5)", boots.man(1, 5), 1);
        Check.due("home(1, 0)", boots.home(1, 0), 8);
        Check.due("home(1, 1)", boots.home(1, 1), 9);
        Check.due("told(0)", boots.told(0), 45);
        Check.due("told(1)", boots.told(1), 67);
        Check.due("told(2)", boots.told(2), NONE);
        // of two ds the last one counts: 5 apart is not lost
        Check.due("man(1, 7)", boots.man(1, 7), 0);
        Check.due("d2 behind d9", Check.laid("d9;h3,4;m5,6,7,0,0,3;m10,11,2,0,0,1;d2;").man(1, 7), 1);
        // what an earlier land's d said is forgotten
        boots.wipe();
        Check.append(boots, "h0,0;m0,0,0,0,0,0;m5,0,0,0,0,0;m4,0,0,0,0,0;");
        Check.due("lay()", boots.lay(), 3);
        Check.due("man(1, 7)", boots.man(1, 7), 1);
        Check.due("man(2, 7)", boots.man(2, 7), 0);
        Check.due("count(2)", boots.count(2), 0);
        Check.due("home(1, 0)", boots.home(1, 0), BAD);
    }

    private static void layForgets() {
        BootsTurnHome boots = Check.laid("h0,0;m8,8,0,0,0,0;m9,9,0,0,0,0;o0,1;");
        boots.order(0, 1);
        boots.tie(1, true);
        boots.seen(0, 1, 7);
        boots.tell(1, 1);
        boots.keep();
        int[] ahead = {1, 2, 2, 1, 1, 0, 1, 2, 1, 36};
        int[] behind = {1, 2, 1, 0, 0, 0, 0, 0, 0, 36};
        for (int what = 0; what < ahead.length; what++) {
            Check.due("ahead of lay: count(" + what + ")", boots.count(what), ahead[what]);
        }
        Check.due("lay()", boots.lay(), 2);
        for (int what = 0; what < behind.length; what++) {
            Check.due("behind lay: count(" + what + ")", boots.count(what), behind[what]);
        }
        Check.due("place of 0", Check.place(boots, 0), 80800);
        Check.due("undo()", boots.undo(), NO);
        Check.due("back()", boots.back(), NO);
        Check.due("villages(0, 0)", boots.villages(0, 0), 256);
    }

    private static void layRefused() {
        for (String text : new String[] {"", "h1,1;", "d3;o1,1;", "h1,1;m1,1,0,0,0,0;x", "h1,1;m1,1,0,0,0,0", "m1,1,0,0,0,0;"}) {
            BootsTurnHome boots = Check.written(text);
            boots.order(0, 1);
            boots.tie(1, true);
            boots.seen(0, 1, 7);
            boots.keep();
            Check.due("lay() of " + text, boots.lay(), NO);
            int[] counts = {2, 5, 3, 1, 1, 0, 1, 2, 1, text.length()};
            for (int what = 0; what < counts.length; what++) {
                Check.due("lay() of " + text + ": count(" + what + ")", boots.count(what), counts[what]);
            }
            Check.due("place of 0", Check.place(boots, 0), 80707);
            Check.due("home(0, 0)", boots.home(0, 0), 2);
            Check.due("told(1)", boots.told(1), 22);
            Check.due("man(4, 5)", boots.man(4, 5), 4);
        }
    }

    private static void man() {
        BootsTurnHome boots = Check.laid("h1,2;h14,13;m3,4,5,0,1,2;m14,13,6,1,0,3;m1,2,7,1,0,4;d10;");
        int[][] want = {
            {3, 4, 5, 0, 1, 2, 0, 0, 0},
            // 11 columns apart; at the home of his left boot
            {14, 13, 6, 1, 0, 3, 0, 1, 1},
            // at the home of his right boot alone
            {1, 2, 7, 1, 0, 4, 0, 0, 0},
        };
        for (int i = 0; i < 3; i++) {
            for (int what = 0; what < 9; what++) {
                Check.due("man(" + i + ", " + what + ")", boots.man(i, what), want[i][what]);
            }
            Check.due("man(i, 9)", boots.man(i, 9), BAD);
            Check.due("man(i, -1)", boots.man(i, -1), BAD);
            Check.due("man(i, MOST)", boots.man(i, MOST), BAD);
        }
        boots.tie(2, true);
        Check.due("man(2, 6)", boots.man(2, 6), 1);
        Check.due("man(1, 6)", boots.man(1, 6), 0);
        for (int i : new int[] {-1, 3, 6, LEAST, MOST}) {
            Check.due("man(" + i + ", 0)", boots.man(i, 0), BAD);
        }
        // as many rows apart counts as columns do
        BootsTurnHome rows = Check.laid("h0,0;m3,3,0,0,0,0;m3,8,0,0,0,0;m3,7,0,0,0,0;");
        Check.due("man(0, 7)", rows.man(0, 7), 0);
        Check.due("man(1, 7)", rows.man(1, 7), 1);
        Check.due("man(2, 7)", rows.man(2, 7), 0);
    }

    private static void home() {
        BootsTurnHome boots = Check.laid("h1,2;h3,4;h5,6;h15,0;m0,0,0,0,0,0;");
        Check.due("home(2, 0)", boots.home(2, 0), 5);
        Check.due("home(2, 1)", boots.home(2, 1), 6);
        Check.due("home(3, 0)", boots.home(3, 0), 15);
        Check.due("home(3, 1)", boots.home(3, 1), 0);
        for (int bad : new int[] {-1, 4, LEAST, MOST}) {
            Check.due("home(" + bad + ", 0)", boots.home(bad, 0), BAD);
            Check.due("home(0, " + bad + ")", boots.home(0, bad), BAD);
        }
        Check.due("home(0, 2)", boots.home(0, 2), BAD);
    }

    private static void told() {
        BootsTurnHome boots = Check.laid("h1,2;m0,0,0,0,0,0;o7,9;o0,0;");
        Check.due("told(0)", boots.told(0), 79);
        Check.due("told(1)", boots.told(1), 0);
        Check.due("told(2)", boots.told(2), NONE);
        Check.due("told(MOST)", boots.told(MOST), NONE);
        Check.due("told(-1)", boots.told(-1), BAD);
        Check.due("told(LEAST)", boots.told(LEAST), BAD);
        boots.tell(3, 4);
        Check.due("told(2)", boots.told(2), 34);
    }

    private static void toward() {
        BootsTurnHome boots = new BootsTurnHome();
        int[][] ways = {
            {0, -3, 0}, {1, -3, 0}, {2, -4, 1}, {2, -5, 0}, {2, -2, 1}, {4, -2, 1}, {5, -2, 2},
            {3, 0, 2}, {5, 2, 2}, {4, 2, 3}, {2, 2, 3}, {2, 4, 3}, {2, 5, 4}, {0, 3, 4},
            {-2, 5, 4}, {-2, 4, 5}, {-1, 1, 5}, {-4, 2, 5}, {-5, 2, 6}, {-1, 0, 6}, {-5, -2, 6},
            {-4, -2, 7}, {-1, -1, 7}, {-2, -4, 7}, {-2, -5, 0},
        };
        for (int[] way : ways) {
            Check.due("toward(8, 8, 8 + " + way[0] + ", 8 + " + way[1] + ")", boots.toward(8, 8, 8 + way[0], 8 + way[1]), way[2]);
        }
        for (int x = 0; x < 16; x++) {
            Check.due("toward itself", boots.toward(x, 15 - x, x, 15 - x), NONE);
        }
        for (int bad : new int[] {-1, 16, LEAST, MOST}) {
            Check.due("toward: x " + bad, boots.toward(bad, 0, 0, 0), BAD);
            Check.due("toward: y " + bad, boots.toward(0, bad, 0, 0), BAD);
            Check.due("toward: u " + bad, boots.toward(0, 0, bad, 0), BAD);
            Check.due("toward: v " + bad, boots.toward(0, 0, 0, bad), BAD);
            Check.due("toward itself, outside", boots.toward(bad, bad, bad, bad), BAD);
        }
    }
}

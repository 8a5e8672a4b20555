/** Promises 24 to 30: strays, lean, storms, march, keep, back, count. */
public final class LeaningsTest {
    private static final int BAD = BootsTurnHome.BAD, NO = BootsTurnHome.NO, FULL = BootsTurnHome.FULL;
    private static final int LEAST = Integer.MIN_VALUE, MOST = Integer.MAX_VALUE;

    public static void main(String[] args) {
        straysByKind();
        straysByOthers();
        lean();
        stormsOfOne();
        stormsOfSeveral();
        stormsAtTheEdge();
        stormsWithBoots();
        stormsRefused();
        marchLost();
        marchHome();
        sixMen();
        marchRefused();
        keepAndBack();
        whatIsNotKept();
        count();
        Check.finish("LeaningsTest");
    }

    private static void straysByKind() {
        // looking east of a home in the north: all but clogs, and new boots at each second halt
        BootsTurnHome boots = Check.laid("h8,0;m8,8,2,0,0,0;m8,8,2,0,0,1;m8,8,2,0,0,2;m8,8,2,0,0,3;m8,8,2,0,0,4;");
        Check.due("strays(1)", boots.strays(1), 1 + 2 + 16);
        Check.due("strays(0)", boots.strays(0), 3);
        Check.due("count(3)", boots.count(3), 0);
        boots.order(0, 0);
        Check.due("strays(1) at the second halt: 1 looks at it", boots.strays(1), 1 + 4 + 16);
        boots.order(0, 0);
        Check.due("strays(1) at the third halt: 0 too, 4 looks just away", boots.strays(1), 0);
        Check.due("strays(0)", boots.strays(0), 0);
        boots.order(0, 0);
        Check.due("strays(1) at the fourth halt", boots.strays(1), 4);
        for (int bad : new int[] {-1, 2, LEAST, MOST}) {
            Check.due("strays(" + bad + ")", boots.strays(bad), BAD);
        }
    }

    private static void straysByOthers() {
        // plain, contrary, looking at it; just away from it; at it; two homes; tied
        BootsTurnHome boots = Check.laid("h8,0;h8,0;m8,8,0,0,0,0;m8,8,0,0,0,4;m8,8,4,0,0,0;m8,0,2,0,0,0;m8,8,2,0,1,0;m8,8,2,1,1,0;");
        Check.due("strays(1)", boots.strays(1), 2 + 4 + 32);
        boots.tie(5, true);
        Check.due("strays(1), 5 tied", boots.strays(1), 2 + 4);
        Check.due("strays(0)", boots.strays(0), 2);
        boots.tie(5, false);
        boots.swap(0, 4);
        Check.due("strays(1), 0 and 4 changed", boots.strays(1), 2 + 4 + 16 + 32);
    }

    private static void lean() {
        BootsTurnHome boots = Check.laid("h0,0;m1,1,7,0,0,3;m1,1,2,0,0,3;m1,1,7,0,0,3;m1,1,2,0,0,3;m1,1,0,0,0,3;");
        Check.due("lean(0), 2 and 7 alike", boots.lean(0), 2);
        Check.due("lean(1)", boots.lean(1), 2);
        boots.order(1, 0);
        Check.due("lean(0), 0 and 3 alike", boots.lean(0), 0);
        Check.due("lean(0)", Check.laid("h0,0;m1,1,7,0,0,3;").lean(0), 7);
        Check.due("lean(1)", Check.laid("h0,0;m1,1,7,0,0,3;").lean(1), 1);
        Check.due("lean(0)", Check.laid("h0,0;m1,1,0,0,0,3;m1,1,5,0,0,3;m1,1,5,0,0,3;").lean(0), 5);
        for (int bad : new int[] {-1, 2, LEAST, MOST}) {
            Check.due("lean(" + bad + ")", boots.lean(bad), BAD);
        }
    }

    private static void stormsOfOne() {
        BootsTurnHome boots = Check.laid("h0,0;m8,8,0,0,0,3;o0,2;");
        Check.storms(boots, 8, 6, 3, 7, 10);
        Check.storms(boots, 8, 7, 3, 3, 10);
        Check.storms(boots, 8, 8, 3, 0, 1);
        Check.storms(boots, 8, 6, 5, 1, 2);
        Check.storms(boots, 8, 7, 4, 2, 5);
        Check.storms(boots, 8, 6, 0, 1, 1);
        Check.storms(boots, 8, 7, 0, 0, 1);
        Check.storms(boots, 8, 6, 10, 0, 1);
        Check.storms(boots, 8, 7, 10, 1, 1);
        Check.due("count(3)", boots.count(3), 0);
        boots.noRow();
        Check.storms(boots, 8, 8, 5, 1, 1);
        Check.storms(boots, 8, 7, 5, 0, 1);
        // no fewer than no step
        boots.tell(0, 0);
        Check.storms(boots, 8, 8, 5, 1, 1);
        Check.storms(boots, 8, 9, 5, 0, 1);
    }

    private static void stormsOfSeveral() {
        BootsTurnHome boots = Check.laid("h0,0;m8,8,0,0,0,3;o0,2;o0,2;");
        Check.storms(boots, 8, 4, 5, 1, 4);
        Check.storms(boots, 8, 5, 5, 1, 2);
        Check.storms(boots, 8, 6, 5, 1, 4);
        Check.storms(boots, 8, 5, 4, 12, 25);
        Check.storms(boots, 8, 4, 4, 9, 25);
        BootsTurnHome six = Check.laid("h0,0;m8,15,0,0,0,3;o0,1;o0,1;o0,1;o0,1;o0,1;o0,1;");
        Check.storms(six, 8, 9, 3, 117649, 1000000);
        Check.storms(six, 8, 15, 3, 729, 1000000);
        Check.storms(six, 8, 12, 5, 5, 16);
        Check.storms(six, 8, 9, 0, 1, 1);
    }

    private static void stormsAtTheEdge() {
        BootsTurnHome boots = Check.laid("h0,0;m8,2,0,0,0,3;o0,3;o4,1;");
        Check.storms(boots, 8, 1, 3, 7, 10);
        Check.storms(boots, 8, 0, 3, 3, 10);
    }

    private static void stormsWithBoots() {
        // behind 8,7 and behind 8,8 he looks north-west, then goes one cell or none
        BootsTurnHome boots = Check.laid("h0,8;m8,8,0,0,0,0;o0,1;o0,1;");
        Check.storms(boots, 7, 6, 2, 16, 25);
        Check.storms(boots, 8, 7, 2, 4, 25);
        Check.storms(boots, 7, 7, 2, 4, 25);
        Check.storms(boots, 8, 8, 2, 1, 25);
        boots.tie(0, true);
        Check.storms(boots, 8, 7, 2, 8, 25);
        // new boots turn behind the second halt of all, which is the row's first if one was given
        BootsTurnHome later = Check.laid("h0,8;m8,8,0,0,0,2;o0,1;o0,1;");
        Check.storms(later, 8, 6, 0, 1, 1);
        later.order(0, 0);
        Check.storms(later, 7, 6, 0, 1, 1);
    }

    private static void stormsRefused() {
        BootsTurnHome boots = new BootsTurnHome();
        for (int bad : new int[] {-1, LEAST, MOST}) {
            Check.due("storms: i " + bad, boots.storms(bad, 0, 0, 0, 0), BAD);
            Check.due("storms: x " + bad, boots.storms(0, bad, 0, 0, 0), BAD);
            Check.due("storms: y " + bad, boots.storms(0, 0, bad, 0, 0), BAD);
            Check.due("storms: odds " + bad, boots.storms(0, 0, 0, bad, 0), BAD);
            Check.due("storms: part " + bad, boots.storms(0, 0, 0, 0, bad), BAD);
        }
        Check.due("storms(5, 0, 0, 0, 0)", boots.storms(5, 0, 0, 0, 0), BAD);
        Check.due("storms(0, 16, 0, 0, 0)", boots.storms(0, 16, 0, 0, 0), BAD);
        Check.due("storms(0, 0, 16, 0, 0)", boots.storms(0, 0, 16, 0, 0), BAD);
        Check.due("storms(0, 0, 0, 11, 0)", boots.storms(0, 0, 0, 11, 0), BAD);
        Check.due("storms(0, 0, 0, 0, 2)", boots.storms(0, 0, 0, 0, 2), BAD);
    }

    /** By 0 the orders are 0,0 1,0 7,0 4,1 4,2 7,3 2,1 7,2 ..; by 9999 they are 4,1 4,1 6,1 7,1 2,2 .. */
    private static void marchLost() {
        BootsTurnHome boots = Check.laid("h0,0;m8,8,0,0,0,3;m8,8,4,0,0,3;d1;");
        Check.due("march(0, 3, 0)", boots.march(0, 3, 0), 0);
        Check.due("march(0, 4, 0)", boots.march(0, 4, 0), 1);
        Check.due("march(0, 5, 0)", boots.march(0, 5, 0), 1);
        Check.due("march(9999, 1, 0)", boots.march(9999, 1, 0), 1);
        Check.due("march(9999, 2, 0)", boots.march(9999, 2, 0), 0);
        Check.due("march(9999, 3, 0)", boots.march(9999, 3, 0), 1);
        Check.due("count(3)", boots.count(3), 0);
        Check.due("place of 0", Check.place(boots, 0), 80800);
    }

    private static void marchHome() {
        BootsTurnHome boots = Check.laid("h8,8;m8,8,0,0,0,3;");
        int[] byZero = {1, 2, 3, 3, 3, 3, 3, 3};
        int[] byMost = {0, 1, 1, 1, 1};
        for (int n = 1; n <= byZero.length; n++) {
            Check.due("march(0, " + n + ", 1)", boots.march(0, n, 1), byZero[n - 1]);
        }
        for (int n = 1; n <= byMost.length; n++) {
            Check.due("march(9999, " + n + ", 1)", boots.march(9999, n, 1), byMost[n - 1]);
        }
        // however many are home behind an order, anybody is; who comes home behind the fourth is another
        BootsTurnHome two = Check.laid("h8,8;m8,8,0,0,0,3;m8,8,0,0,0,3;m8,7,0,0,0,3;");
        Check.due("march(0, 3, 1)", two.march(0, 3, 1), 3);
        Check.due("march(0, 4, 1)", two.march(0, 4, 1), 4);
        Check.due("march(0, 5, 1)", two.march(0, 5, 1), 4);
        // the home of the left boot
        BootsTurnHome left = Check.laid("h8,8;h1,1;m8,8,0,1,0,3;");
        Check.due("march(0, 3, 1)", left.march(0, 3, 1), 0);
    }

    private static void sixMen() {
        String man = "m8,8,0,0,0,3;";
        BootsTurnHome boots = Check.laid("h1,1;" + man.repeat(5) + "m8,14,0,0,0,0;");
        Check.due("count(5)", boots.count(5), 1);
        Check.due("order(4, 1)", boots.order(4, 1), 1);
        Check.due("place of 5", Check.place(boots, 5), 81505);
        Check.due("strays(1)", boots.strays(1), 32);
        Check.due("lean(0)", boots.lean(0), 4);
        Check.due("lean(1)", boots.lean(1), 5);
        Check.due("march(0, 40, 1)", boots.march(0, 40, 1), 0);
        Check.due("pairs(-1)", boots.pairs(-1), 0);
        // only the last one is home
        BootsTurnHome last = Check.laid("h8,8;h1,1;" + "m8,8,0,1,1,3;".repeat(5) + "m8,8,0,0,0,3;");
        Check.due("march(0, 4, 1)", last.march(0, 4, 1), 3);
        // fewer men than were there
        boots.wipe();
        Check.append(boots, "h1,1;m15,15,4,0,0,3;");
        Check.due("lay()", boots.lay(), 1);
        Check.due("lean(1)", boots.lean(1), 1);
        Check.due("count(5)", boots.count(5), 0);
        Check.due("pairs(1)", boots.pairs(1), BAD);
    }

    private static void marchRefused() {
        BootsTurnHome boots = new BootsTurnHome();
        for (int bad : new int[] {-1, LEAST, MOST}) {
            Check.due("march: z " + bad, boots.march(bad, 1, 0), BAD);
            Check.due("march: n " + bad, boots.march(0, bad, 0), BAD);
            Check.due("march: what " + bad, boots.march(0, 1, bad), BAD);
        }
        Check.due("march(10000, 1, 0)", boots.march(10000, 1, 0), BAD);
        Check.due("march(0, 0, 0)", boots.march(0, 0, 0), BAD);
        Check.due("march(0, 41, 0)", boots.march(0, 41, 0), BAD);
        Check.due("march(0, 1, 2)", boots.march(0, 1, 2), BAD);
        Check.holds("march(9999, 40, 0)", boots.march(9999, 40, 0) >= 0);
    }

    private static void keepAndBack() {
        BootsTurnHome boots = new BootsTurnHome();
        Check.due("back()", boots.back(), NO);
        boots.order(0, 1);
        boots.tie(3, true);
        Check.due("keep()", boots.keep(), 1);
        int first = Check.place(boots, 0);
        boots.swap(0, 1);
        boots.order(2, 2);
        Check.due("keep()", boots.keep(), 2);
        int second = Check.place(boots, 0);
        boots.tie(3, false);
        boots.order(5, 4);
        Check.due("keep()", boots.keep(), FULL);
        Check.due("count(8)", boots.count(8), 2);
        Check.due("count(7)", boots.count(7), 6);
        Check.due("back()", boots.back(), 1);
        Check.due("place of 0", Check.place(boots, 0), second);
        Check.due("man(0, 4)", boots.man(0, 4), 1);
        Check.due("man(3, 6)", boots.man(3, 6), 1);
        Check.due("count(3)", boots.count(3), 2);
        Check.due("count(7)", boots.count(7), 0);
        Check.due("undo()", boots.undo(), NO);
        boots.order(1, 1);
        Check.due("back()", boots.back(), 0);
        Check.due("place of 0", Check.place(boots, 0), first);
        Check.due("man(0, 4)", boots.man(0, 4), 0);
        Check.due("man(1, 4)", boots.man(1, 4), 1);
        Check.due("count(3)", boots.count(3), 1);
        Check.due("count(4)", boots.count(4), 1);
        Check.due("undo()", boots.undo(), NO);
        Check.due("back()", boots.back(), NO);
        Check.due("place of 0", Check.place(boots, 0), first);
        Check.due("keep()", boots.keep(), 1);
    }

    private static void whatIsNotKept() {
        BootsTurnHome boots = new BootsTurnHome();
        boots.keep();
        boots.tell(1, 1);
        boots.seen(0, 4, 1);
        boots.order(0, 1);
        boots.undo();
        Check.due("count(8): undoing leaves it", boots.count(8), 1);
        boots.back();
        Check.due("count(2): the row stays", boots.count(2), 4);
        Check.due("count(6): what is seen stays", boots.count(6), 1);
        boots.keep();
        boots.noRow();
        boots.back();
        Check.due("count(2)", boots.count(2), 0);
        Check.due("count(6)", boots.count(6), 0);
        // keeping can not be undone and leaves what can be
        boots.order(0, 1);
        boots.keep();
        Check.due("count(7)", boots.count(7), 1);
        Check.due("undo()", boots.undo(), 0);
    }

    private static void count() {
        BootsTurnHome boots = Check.laid("h0,0;h1,1;h2,2;m3,3,0,0,0,3;m3,9,4,0,0,3;m9,3,2,0,0,3;m3,4,0,0,0,3;o1,1;o2,2;");
        boots.order(0, 0);
        boots.order(0, 0);
        boots.order(0, 0);
        boots.tie(0, true);
        boots.seen(0, 1, 1);
        boots.keep();
        int[] counts = {3, 4, 2, 3, 1, 2, 1, 4, 1, 77};
        for (int what = 0; what < counts.length; what++) {
            Check.due("count(" + what + ")", boots.count(what), counts[what]);
        }
        for (int bad : new int[] {-1, 10, LEAST, MOST}) {
            Check.due("count(" + bad + ")", boots.count(bad), BAD);
        }
    }
}

/** The bounds that section 4 of the document names: SEEN, VILLAGES, STRAYS, LEAN, STORMS, a MARCH, KEPT; and count's. */
public final class StormBoundsTest {
    private static final int BAD = BootsTurnHome.BAD, NO = BootsTurnHome.NO;
    private static final int FULL = BootsTurnHome.FULL, NONE = BootsTurnHome.NONE;
    private static final String SIX_KINDS =
        "h3,3;h12,9;m8,8,0,0,0,0;m8,9,2,1,1,1;m7,8,3,0,0,2;m9,8,4,1,1,3;m8,7,5,0,0,4;m7,7,7,0,1,0;";

    public static void main(String[] args) {
        seenAre6AtMost();
        seenBehind1ToTheLast();
        seenWays0To7();
        seenIsForgotten();
        villagesOfNothingSeen();
        villagesAreWhereHomesFit();
        villagesOfOneCell();
        villagesOfNoCell();
        villagesAreOfOneMan();
        villagesAsIfPlain();
        straysOfNobodyAndAll();
        straysAreWhoTurns();
        leanOfOneAndAll();
        leanIsTheLowest();
        stormsOfNoOrder();
        stormsOfSixOrders();
        stormsByNoneAndTen();
        stormsInLowestTerms();
        stormsLeaveNoStepLess();
        stormsAreOneInAll();
        marchOf1To40();
        marchLostIsThen();
        marchHomeIsBehindAnOrder();
        keptAre2AtMost();
        keptLastComesFirst();
        keptIsNotTheRow();
        backUndoesNothing();
        countsAtTheirLeastAndMost();
        Check.finish("StormBoundsTest");
    }

    private static void seenAre6AtMost() {
        BootsTurnHome boots = Check.laid("h0,0;m8,8,0,0,0,0;o0,0;");
        for (int k = 1; k <= 6; k++) {
            Check.due("seen, the " + k + "-th", boots.seen(0, 1, 7), k);
        }
        int villages = boots.villages(0, 0);
        Check.due("seen, the 7th", boots.seen(0, 1, 3), FULL);
        Check.due("count(6)", boots.count(6), 6);
        Check.due("villages(0, 0): the 7th does not count", boots.villages(0, 0), villages);
        boots.forget();
        Check.due("seen behind forget", boots.seen(0, 1, 3), 1);
    }

    private static void seenBehind1ToTheLast() {
        BootsTurnHome boots = Check.laid("h0,0;m8,8,0,0,0,0;");
        Check.due("seen(0, 1, 0) of no row", boots.seen(0, 1, 0), BAD);
        for (int orders = 1; orders <= 6; orders++) {
            boots.tell(0, 0);
            Check.due("seen(0, 0, 0)", boots.seen(0, 0, 0), BAD);
            Check.due("seen beyond " + orders, boots.seen(0, orders + 1, 0), BAD);
            Check.due("seen behind " + orders, boots.seen(0, orders, 0), orders);
        }
    }

    private static void seenWays0To7() {
        for (int faced = 0; faced < 8; faced++) {
            BootsTurnHome boots = new BootsTurnHome();
            Check.due("seen(4, 3, " + faced + ")", boots.seen(4, 3, faced), 1);
        }
        BootsTurnHome boots = new BootsTurnHome();
        Check.due("seen(4, 3, -1)", boots.seen(4, 3, -1), BAD);
        Check.due("seen(4, 3, 8)", boots.seen(4, 3, 8), BAD);
        Check.due("count(6)", boots.count(6), 0);
    }

    private static void seenIsForgotten() {
        BootsTurnHome boots = Check.laid("h0,0;m8,8,0,0,0,0;o0,0;");
        Check.due("forget() of none", boots.forget(), 0);
        for (int k = 0; k < 6; k++) {
            boots.seen(0, 1, 4);
        }
        Check.due("villages(0, 0)", boots.villages(0, 0), 0);
        Check.due("forget() of six", boots.forget(), 6);
        Check.due("forget() again", boots.forget(), 0);
        Check.due("villages(0, 0)", boots.villages(0, 0), 256);
        Check.due("count(2): the row stays", boots.count(2), 1);
    }

    private static void villagesOfNothingSeen() {
        BootsTurnHome boots = Check.laid(SIX_KINDS);
        for (int i = 0; i < 6; i++) {
            Check.due("villages(" + i + ", 0)", boots.villages(i, 0), 256);
            Check.due("villages(" + i + ", 1)", boots.villages(i, 1), 0);
        }
    }

    /** For each cell a land is laid whose home is there, and a plain man of it looked at. */
    private static void villagesAreWhereHomesFit() {
        String rest = ";m6,9,1,0,0,0;o7,2;o3,1;o0,3;";
        for (int t = 1; t <= 3; t++) {
            int[] many = new int[8];
            int[] first = {NONE, NONE, NONE, NONE, NONE, NONE, NONE, NONE};
            for (int cell = 255; cell >= 0; cell--) {
                int looks = Check.laid("h" + cell % 16 + "," + cell / 16 + rest).behind(t, 0, 2);
                many[looks]++;
                first[looks] = cell;
            }
            for (int faced = 0; faced < 8; faced++) {
                BootsTurnHome boots = Check.laid("h0,0" + rest);
                boots.seen(0, t, faced);
                Check.due("villages(0, 0) seen " + faced + " behind " + t, boots.villages(0, 0), many[faced]);
                Check.due("villages(0, 1) seen " + faced + " behind " + t, boots.villages(0, 1), first[faced]);
            }
        }
    }

    private static void villagesOfOneCell() {
        // who looks out of a corner and does not turn is at it: toward any other cell he would turn
        int[][] corners = {{0, 0, 7, 0}, {15, 0, 1, 15}, {0, 15, 5, 240}, {15, 15, 3, 255}};
        for (int[] corner : corners) {
            BootsTurnHome boots = Check.laid("h8,8;m" + corner[0] + "," + corner[1] + "," + corner[2] + ",0,0,0;o0,9;");
            boots.seen(0, 1, corner[2]);
            Check.due("villages(0, 0)", boots.villages(0, 0), 1);
            Check.due("villages(0, 1)", boots.villages(0, 1), corner[3]);
        }
    }

    private static void villagesOfNoCell() {
        // a plain one turns by one eighth, not by two
        BootsTurnHome boots = Check.laid("h8,8;m8,8,0,0,0,1;o0,0;");
        boots.seen(0, 1, 2);
        Check.due("villages(0, 0)", boots.villages(0, 0), 0);
        Check.due("villages(0, 1)", boots.villages(0, 1), NONE);
        boots.forget();
        boots.seen(0, 1, 6);
        Check.due("villages(0, 1)", boots.villages(0, 1), NONE);
        boots.forget();
        boots.seen(0, 1, 1);
        boots.seen(0, 1, 7);
        Check.due("villages(0, 0), right and left", boots.villages(0, 0), 0);
    }

    private static void villagesAreOfOneMan() {
        BootsTurnHome boots = Check.laid("h8,8;m8,8,0,0,0,0;m8,8,0,0,0,0;o0,0;");
        for (int k = 0; k < 6; k++) {
            boots.seen(1, 1, 4);
        }
        Check.due("villages(0, 0)", boots.villages(0, 0), 256);
        Check.due("villages(1, 0)", boots.villages(1, 0), 0);
    }

    private static void villagesAsIfPlain() {
        int want = 0;
        for (int kind = 0; kind < 5; kind++) {
            // tied, from two homes, of each kind, at an odd and at an even halt
            BootsTurnHome boots = Check.laid("h8,0;h0,8;m8,8,0,0,1," + kind + ";o0,1;o0,1;");
            boots.tie(0, true);
            for (int halt = 0; halt < 2; halt++) {
                boots.seen(0, 1, 1);
                boots.seen(0, 2, 2);
                want = want == 0 ? boots.villages(0, 0) : want;
                Check.due("villages(0, 0), kind " + kind, boots.villages(0, 0), want);
                boots.forget();
                boots.order(0, 0);
            }
        }
        Check.holds("there are some, but not all", want > 0 && want < 256);
    }

    private static void straysOfNobodyAndAll() {
        BootsTurnHome all = Check.laid("h8,0;" + "m8,8,4,0,0,0;".repeat(6));
        Check.due("strays(0)", all.strays(0), 6);
        Check.due("strays(1)", all.strays(1), 63);
        for (int i = 0; i < 6; i++) {
            all.tie(i, true);
            Check.due("strays(1) without " + i, all.strays(1), 63 - (2 << i) + 1);
        }
        Check.due("strays(0)", all.strays(0), 0);
        Check.due("strays(1)", all.strays(1), 0);
        Check.due("strays(1) of clogs", Check.laid("h8,0;m8,8,4,0,0,3;").strays(1), 0);
    }

    private static void straysAreWhoTurns() {
        BootsTurnHome boots = Check.laid(SIX_KINDS);
        for (int halt = 0; halt < 12; halt++) {
            int strays = boots.strays(1);
            Check.due("strays(0)", boots.strays(0), Integer.bitCount(strays));
            int[] looked = new int[6];
            for (int i = 0; i < 6; i++) {
                looked[i] = boots.man(i, 2);
            }
            boots.order(0, 0);
            for (int i = 0; i < 6; i++) {
                Check.due("halt " + halt + ", man " + i + " turns", strays >> i & 1, boots.man(i, 2) != looked[i] ? 1 : 0);
            }
        }
    }

    private static void leanOfOneAndAll() {
        for (int looks = 0; looks < 8; looks++) {
            BootsTurnHome one = Check.laid("h8,0;m8,8," + looks + ",0,0,3;");
            Check.due("lean(0) of one", one.lean(0), looks);
            Check.due("lean(1) of one", one.lean(1), 1);
            BootsTurnHome six = Check.laid("h8,0;" + ("m8,8," + looks + ",0,0,3;").repeat(6));
            Check.due("lean(0) of six", six.lean(0), looks);
            Check.due("lean(1) of six", six.lean(1), 6);
        }
    }

    private static void lean(String looks, int way, int many) {
        StringBuilder text = new StringBuilder("h8,0;");
        for (char look : looks.toCharArray()) {
            text.append("m8,8,").append(look).append(",0,0,3;");
        }
        BootsTurnHome boots = Check.laid(text.toString());
        Check.due("lean(0) of " + looks, boots.lean(0), way);
        Check.due("lean(1) of " + looks, boots.lean(1), many);
    }

    private static void leanIsTheLowest() {
        lean("765432", 2, 1);
        lean("07", 0, 1);
        lean("70", 0, 1);
        lean("7766", 6, 2);
        lean("776655", 5, 2);
        lean("077", 7, 2);
        lean("0077", 0, 2);
        lean("001777", 7, 3);
    }

    private static void stormsOfNoOrder() {
        BootsTurnHome boots = Check.laid("h0,0;m8,8,0,0,0,0;");
        for (int odds = 0; odds <= 10; odds++) {
            Check.storms(boots, 8, 8, odds, 1, 1);
            Check.storms(boots, 8, 7, odds, 0, 1);
        }
    }

    private static void stormsOfSixOrders() {
        // one step less for each that is struck
        BootsTurnHome boots = Check.laid("h0,0;m8,15,0,0,0,3;" + "o0,1;".repeat(6));
        Check.storms(boots, 8, 9, 1, 531441, 1000000);
        Check.storms(boots, 8, 15, 1, 1, 1000000);
        Check.storms(boots, 8, 15, 9, 531441, 1000000);
        Check.storms(boots, 8, 9, 9, 1, 1000000);
        Check.storms(boots, 8, 12, 5, 5, 16);
        Check.storms(boots, 8, 9, 5, 1, 64);
        Check.storms(boots, 8, 8, 5, 0, 1);
        Check.due("tell(0, 1)", boots.tell(0, 1), FULL);
    }

    private static void stormsByNoneAndTen() {
        String row = "o0,3;o2,1;o7,2;o5,0;";
        BootsTurnHome calm = Check.laid(SIX_KINDS + row);
        BootsTurnHome struck = Check.laid(SIX_KINDS + "o0,2;o2,0;o7,1;o5,0;");
        for (int i = 0; i < 6; i++) {
            Check.due("by 0 of ten", calm.storms(i, calm.behind(4, i, 0), calm.behind(4, i, 1), 0, 0), 1);
            Check.due("by 0 of ten", calm.storms(i, calm.behind(4, i, 0), calm.behind(4, i, 1), 0, 1), 1);
            Check.due("by 10 of ten", calm.storms(i, struck.behind(4, i, 0), struck.behind(4, i, 1), 10, 0), 1);
            Check.due("by 10 of ten", calm.storms(i, struck.behind(4, i, 0), struck.behind(4, i, 1), 10, 1), 1);
        }
        Check.due("by -1 of ten", calm.storms(0, 8, 8, -1, 0), BAD);
        Check.due("by 11 of ten", calm.storms(0, 8, 8, 11, 0), BAD);
    }

    private static void stormsInLowestTerms() {
        int[][] chances = {{1, 1}, {9, 10}, {4, 5}, {7, 10}, {3, 5}, {1, 2}, {2, 5}, {3, 10}, {1, 5}, {1, 10}, {0, 1}};
        BootsTurnHome boots = Check.laid("h0,0;m8,8,0,0,0,3;o0,2;");
        for (int odds = 0; odds <= 10; odds++) {
            Check.storms(boots, 8, 6, odds, chances[odds][0], chances[odds][1]);
            Check.storms(boots, 8, 7, odds, chances[10 - odds][0], chances[10 - odds][1]);
        }
        // 49, 21 and 21, 9 of a hundred
        BootsTurnHome two = Check.laid("h0,0;m8,8,0,0,0,3;o0,2;o0,2;");
        Check.storms(two, 8, 4, 3, 49, 100);
        Check.storms(two, 8, 5, 3, 21, 50);
        Check.storms(two, 8, 6, 3, 9, 100);
    }

    private static void stormsLeaveNoStepLess() {
        BootsTurnHome none = Check.laid("h0,0;m8,8,0,0,0,3;o0,0;");
        Check.storms(none, 8, 8, 10, 1, 1);
        Check.storms(none, 8, 9, 10, 0, 1);
        BootsTurnHome one = Check.laid("h0,0;m8,8,0,0,0,3;o0,1;");
        Check.storms(one, 8, 8, 10, 1, 1);
        Check.storms(one, 8, 7, 10, 0, 1);
        // at the edge one step less ends where the whole march does
        BootsTurnHome edge = Check.laid("h0,0;m8,1,0,0,0,3;o0,2;");
        Check.storms(edge, 8, 0, 3, 1, 1);
    }

    private static void stormsAreOneInAll() {
        for (int i = 0; i < 6; i++) {
            for (int odds = 1; odds <= 9; odds += 4) {
                long all = 0;
                for (int part = 0; part < 4; part++) {
                    // a quarter of the land each, so that no object is used too often
                    BootsTurnHome boots = Check.laid(SIX_KINDS + "o1,2;o3,1;o6,3;o0,2;o5,1;o7,9;");
                    for (int cell = 64 * part; cell < 64 * part + 64; cell++) {
                        long above = boots.storms(i, cell % 16, cell / 16, odds, 0);
                        int below = boots.storms(i, cell % 16, cell / 16, odds, 1);
                        Check.holds("below divides a million", below > 0 && 1000000 % below == 0);
                        all += above * (1000000 / below);
                    }
                }
                Check.due("man " + i + " by " + odds + ", all cells", all, 1000000);
            }
        }
    }

    private static void marchOf1To40() {
        for (int z : new int[] {0, 1, 9998, 9999}) {
            for (int n : new int[] {1, 2, 39, 40}) {
                BootsTurnHome boots = Check.laid("h8,8;h8,9;m8,8,0,0,0,0;m8,9,0,1,1,4;m7,8,3,0,0,2;d3;");
                BootsTurnHome ordered = Check.laid("h8,8;h8,9;m8,8,0,0,0,0;m8,9,0,1,1,4;m7,8,3,0,0,2;d3;");
                int lost = 0;
                int home = 0;
                for (int k = 0; k < n; k++) {
                    long x = 7919L * z + 6151L * k + 1;
                    int draw = (int) (x * x % 65521) / 8;
                    lost = ordered.order(draw % 8, draw / 8 % 4);
                    home += ordered.man(0, 8) + ordered.man(1, 8) + ordered.man(2, 8) > 0 ? 1 : 0;
                }
                Check.due("march(" + z + ", " + n + ", 0)", boots.march(z, n, 0), lost);
                Check.due("march(" + z + ", " + n + ", 1)", boots.march(z, n, 1), home);
            }
        }
    }

    private static void marchLostIsThen() {
        // the orders by 0 are 0,0 1,0 7,0 4,1 4,2: behind the fourth each has turned round and gone a step
        BootsTurnHome boots = Check.laid("h0,0;m8,8,0,0,0,3;m8,9,4,0,0,3;d2;");
        Check.due("march(0, 3, 0), one apart", boots.march(0, 3, 0), 0);
        Check.due("march(0, 4, 0), one apart the other way", boots.march(0, 4, 0), 0);
        Check.due("march(0, 5, 0), three apart", boots.march(0, 5, 0), 1);
        BootsTurnHome far = Check.laid("h0,0;m8,8,0,0,0,3;m8,11,4,0,0,3;d2;");
        Check.due("count(5)", far.count(5), 1);
        Check.due("march(0, 3, 0)", far.march(0, 3, 0), 1);
        Check.due("march(0, 4, 0), one apart", far.march(0, 4, 0), 0);
    }

    private static void marchHomeIsBehindAnOrder() {
        // the orders by 9999 are 4,1 4,1 6,1: home now, not behind the first, behind the second
        BootsTurnHome boots = Check.laid("h8,8;m8,8,0,0,0,3;");
        Check.due("man(0, 8)", boots.man(0, 8), 1);
        Check.due("march(9999, 1, 1)", boots.march(9999, 1, 1), 0);
        Check.due("march(9999, 2, 1)", boots.march(9999, 2, 1), 1);
        Check.due("march(9999, 3, 1)", boots.march(9999, 3, 1), 1);
        // at home behind each of the first three by 0, which march no step
        BootsTurnHome six = Check.laid("h8,8;" + "m8,8,0,0,0,3;".repeat(6));
        Check.due("march(0, 1, 1)", six.march(0, 1, 1), 1);
        Check.due("march(0, 3, 1)", six.march(0, 3, 1), 3);
        Check.due("march(0, 4, 1)", six.march(0, 4, 1), 3);
    }

    private static void keptAre2AtMost() {
        BootsTurnHome boots = new BootsTurnHome();
        Check.due("back()", boots.back(), NO);
        Check.due("keep()", boots.keep(), 1);
        Check.due("keep()", boots.keep(), 2);
        Check.due("keep()", boots.keep(), FULL);
        Check.due("count(8)", boots.count(8), 2);
        Check.due("back()", boots.back(), 1);
        Check.due("keep()", boots.keep(), 2);
        Check.due("keep()", boots.keep(), FULL);
        Check.due("back()", boots.back(), 1);
        Check.due("back()", boots.back(), 0);
        Check.due("back()", boots.back(), NO);
        Check.due("keep()", boots.keep(), 1);
    }

    private static void keptLastComesFirst() {
        BootsTurnHome boots = Check.laid("h0,0;h1,1;m0,8,2,0,0,3;m0,8,2,1,1,3;");
        boots.order(0, 1);
        boots.keep();
        boots.order(0, 1);
        boots.tie(0, true);
        boots.swap(0, 1);
        boots.keep();
        boots.order(0, 1);
        boots.tie(0, false);
        boots.swap(0, 1);
        // what is kept no more does not come in place of what is
        Check.due("keep()", boots.keep(), FULL);
        int[][] want = {{2, 1, 1, 2}, {1, 0, 0, 1}};
        for (int[] as : want) {
            boots.back();
            Check.due("column", boots.man(0, 0), as[0]);
            Check.due("right boot", boots.man(0, 4), as[1]);
            Check.due("tied", boots.man(0, 6), as[2]);
            Check.due("count(3)", boots.count(3), as[3]);
            Check.due("count(4)", boots.count(4), as[2]);
        }
    }

    private static void keptIsNotTheRow() {
        BootsTurnHome boots = Check.laid("h0,0;m0,8,2,0,0,3;o1,1;");
        boots.seen(0, 1, 1);
        boots.keep();
        boots.tell(2, 2);
        boots.seen(0, 2, 2);
        boots.back();
        Check.due("count(2)", boots.count(2), 2);
        Check.due("told(1)", boots.told(1), 22);
        Check.due("count(6)", boots.count(6), 2);
        boots.keep();
        boots.noRow();
        boots.back();
        Check.due("count(2)", boots.count(2), 0);
        Check.due("count(6)", boots.count(6), 0);
        // nor the text: letters written since are still there
        boots.keep();
        boots.write('o');
        boots.back();
        Check.due("count(9)", boots.count(9), 24);
    }

    private static void backUndoesNothing() {
        BootsTurnHome boots = Check.laid("h0,0;m0,8,2,0,0,3;");
        for (int k = 0; k < 9; k++) {
            boots.order(0, 1);
        }
        boots.keep();
        Check.due("count(7): keeping leaves it", boots.count(7), 8);
        boots.back();
        Check.due("count(7)", boots.count(7), 0);
        Check.due("undo()", boots.undo(), NO);
        Check.due("man(0, 0)", boots.man(0, 0), 9);
        boots.order(0, 1);
        Check.due("undo()", boots.undo(), 0);
        Check.due("man(0, 0)", boots.man(0, 0), 9);
        // what is undone stays kept
        boots.order(0, 1);
        boots.keep();
        boots.undo();
        Check.due("man(0, 0)", boots.man(0, 0), 9);
        Check.due("back()", boots.back(), 0);
        Check.due("man(0, 0)", boots.man(0, 0), 10);
    }

    private static void counts(BootsTurnHome boots, int... want) {
        for (int what = 0; what <= 9; what++) {
            Check.due("count(" + what + ")", boots.count(what), want[what]);
        }
        Check.due("count(-1)", boots.count(-1), BAD);
        Check.due("count(10)", boots.count(10), BAD);
    }

    private static void countsAtTheirLeastAndMost() {
        BootsTurnHome least = Check.laid("h0,0;m0,0,0,0,0,0;");
        least.wipe();
        counts(least, 1, 1, 0, 0, 0, 0, 0, 0, 0, 0);
        String men = "m0,0,0,0,0,3;" + "m15,15,3,0,0,3;".repeat(5);
        BootsTurnHome most = Check.laid("h0,0;h1,1;h2,2;h3,3;" + men + "o1,1;o1,1;o1,1;o1,1;o1,1;o1,1;");
        Check.append(most, "x".repeat(200 - 20 - men.length() - 30));
        for (int k = 0; k < 60; k++) {
            most.order(0, 0);
        }
        for (int k = 0; k < 6; k++) {
            most.seen(k, k + 1, k);
            most.tie(k, true);
        }
        most.keep();
        most.keep();
        counts(most, 4, 6, 6, 60, 6, 5, 6, 8, 2, 200);
    }
}

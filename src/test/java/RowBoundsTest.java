/** The bounds that section 3 of the document names: THE ROW, STRAYED, BRING, PAIRS, HOMEWARD. */
public final class RowBoundsTest {
    private static final int BAD = BootsTurnHome.BAD, FULL = BootsTurnHome.FULL, NONE = BootsTurnHome.NONE;

    public static void main(String[] args) {
        theRowIsOf0To6();
        noRowOfEmptyAndFull();
        behind0IsNow();
        behindEachIsAsOrdered();
        behindGoesOnFromNow();
        strayedAtEachOrder();
        strayedIsTheFirst();
        strayedOfNobody();
        strayedIsNotOfNow();
        bringByNoOrder();
        bringByOneOrder();
        bringBy3StepsAtMost();
        bringByThreeOrders();
        bringByNone();
        bringIsTheFirst();
        bringAtTheEdge();
        bringIsOfTheManAlone();
        pairsOfOneMan();
        pairsOfNone();
        pairsOfAll();
        pairsAreOfBootsThatThereAre();
        pairsAreTheFirst();
        pairsGoByRightBootsOfNow();
        homewardOfNoOrder();
        homewardToTheFarEdge();
        homewardOf60();
        homewardOfNobody();
        Check.finish("RowBoundsTest");
    }

    private static void theRowIsOf0To6() {
        BootsTurnHome boots = Check.laid("h0,0;m8,8,0,0,0,0;");
        Check.due("count(2)", boots.count(2), 0);
        Check.due("told(0)", boots.told(0), NONE);
        for (int k = 0; k < 6; k++) {
            Check.due("tell(7, " + k + ")", boots.tell(7, k), k + 1);
            Check.due("told(" + k + ")", boots.told(k), 70 + k);
            Check.due("told(" + (k + 1) + ")", boots.told(k + 1), NONE);
            Check.due("behind(" + (k + 1) + ", 0, 0) is told", boots.behind(k + 1, 0, 0) != BAD ? 1 : 0, 1);
            Check.due("behind(" + (k + 2) + ", 0, 0)", boots.behind(k + 2, 0, 0), BAD);
        }
        Check.due("tell(0, 0)", boots.tell(0, 0), FULL);
        for (int k = 0; k < 6; k++) {
            Check.due("told(" + k + ")", boots.told(k), 70 + k);
        }
    }

    private static void noRowOfEmptyAndFull() {
        BootsTurnHome boots = Check.laid("h0,0;m8,8,0,0,0,0;o1,1;o2,2;o3,3;o4,4;o5,5;o6,6;");
        for (int t = 1; t <= 6; t++) {
            boots.seen(0, t, t);
        }
        Check.due("noRow()", boots.noRow(), 6);
        Check.due("count(2)", boots.count(2), 0);
        Check.due("count(6)", boots.count(6), 0);
        Check.due("noRow() again", boots.noRow(), 0);
        // where nothing is told nothing is seen, so there is nothing to forget
        Check.due("forget()", boots.forget(), 0);
        Check.due("tell(0, 1)", boots.tell(0, 1), 1);
        Check.due("villages(0, 0)", boots.villages(0, 0), 256);
    }

    private static void behind0IsNow() {
        BootsTurnHome boots = new BootsTurnHome();
        for (int k = 0; k < 5; k++) {
            for (int i = 0; i < 5; i++) {
                Check.due("behind 0", Check.placeBehind(boots, 0, i), Check.place(boots, i));
            }
            boots.order(k, 2);
        }
        boots.noRow();
        Check.due("behind 0 of no row", Check.placeBehind(boots, 0, 3), Check.place(boots, 3));
    }

    private static void behindEachIsAsOrdered() {
        int[] row = {3, 22, 79, 0, 41, 15};
        BootsTurnHome boots = Check.laid(sixKinds() + "o0,3;o2,2;o7,9;o0,0;o4,1;o1,5;");
        BootsTurnHome ordered = Check.laid(sixKinds());
        for (int k = 0; k <= 6; k++) {
            for (int i = 0; i < 6; i++) {
                Check.due(i + " behind " + k, Check.placeBehind(boots, k, i), Check.place(ordered, i));
            }
            if (k < 6) {
                ordered.order(row[k] / 10, row[k] % 10);
            }
        }
    }

    private static String sixKinds() {
        return "h3,3;h12,9;m8,8,0,0,0,0;m8,9,2,1,1,1;m7,8,3,0,0,2;m9,8,4,1,1,3;m8,7,5,0,0,4;m7,7,7,0,1,0;";
    }

    private static void behindGoesOnFromNow() {
        BootsTurnHome boots = Check.laid(sixKinds() + "o1,2;o3,1;");
        boots.tie(0, true);
        boots.swap(1, 5);
        boots.order(5, 1);
        int[] foreseen = new int[6];
        for (int i = 0; i < 6; i++) {
            foreseen[i] = Check.placeBehind(boots, 2, i);
        }
        boots.order(1, 2);
        boots.order(3, 1);
        for (int i = 0; i < 6; i++) {
            Check.due("as foreseen", Check.place(boots, i), foreseen[i]);
        }
    }

    /** Two who look away from each other, in clogs: lost when more than 4 apart, so behind the third step. */
    private static BootsTurnHome parting(String row) {
        return Check.laid("h0,0;m8,8,6,0,0,3;m8,8,2,0,0,3;" + row);
    }

    private static void strayedAtEachOrder() {
        for (int first = 1; first <= 6; first++) {
            String row = "o0,0;".repeat(first - 1) + "o0,3;" + "o0,0;".repeat(6 - first);
            Check.due("strayed() at " + first, parting(row).strayed(), first);
        }
        Check.due("strayed() at the last of one", parting("o0,3;").strayed(), 1);
        Check.due("strayed() of 4 apart", parting("o0,2;").strayed(), NONE);
    }

    private static void strayedIsTheFirst() {
        // apart at the second, together at the third, apart again at the fourth
        BootsTurnHome boots = parting("o0,1;o0,2;o4,3;o0,3;");
        Check.due("strayed()", boots.strayed(), 2);
        // anybody: the last man as well as the second
        String others = "m8,8,6,0,0,3;".repeat(4);
        Check.due("strayed() of the last", Check.laid("h0,0;m8,8,6,0,0,3;" + others + "m8,8,2,0,0,3;o0,0;o0,3;").strayed(), 2);
    }

    private static void strayedOfNobody() {
        Check.due("strayed() of no row", parting("").strayed(), NONE);
        Check.due("strayed() of one who is alone", Check.laid("h0,0;m8,8,6,0,0,0;o0,9;o4,9;o4,9;d1;").strayed(), NONE);
        Check.due("strayed() of six orders", parting("o0,2;o4,2;o0,2;o4,2;o0,1;o0,1;").strayed(), NONE);
    }

    private static void strayedIsNotOfNow() {
        BootsTurnHome boots = parting("");
        Check.due("order(0, 3)", boots.order(0, 3), 1);
        Check.due("strayed() of no row", boots.strayed(), NONE);
        boots.tell(4, 1);
        Check.due("strayed() when 4 apart again", boots.strayed(), NONE);
        boots.noRow();
        boots.tell(0, 0);
        Check.due("strayed() where they stay", boots.strayed(), 1);
    }

    private static void bringByNoOrder() {
        Check.brings(Check.laid("h0,0;m8,8,0,0,0,3;"), 8, 8);
        // in a corner an order could leave him there, too: none is fewer
        Check.brings(Check.laid("h0,0;m0,0,7,0,0,3;"), 0, 0);
        Check.brings(Check.laid("h0,0;m15,15,3,0,0,3;"), 15, 15);
    }

    private static void bringByOneOrder() {
        for (int looks = 0; looks < 8; looks++) {
            BootsTurnHome boots = Check.laid("h0,0;m8,8," + looks + ",0,0,3;");
            for (int way = 0; way < 8; way++) {
                int turn = (way - looks + 8) % 8;
                for (int n = 1; n <= 3; n++) {
                    Check.brings(boots, 8 + n * Check.EAST[way], 8 + n * Check.SOUTH[way], 10 * turn + n);
                }
            }
        }
    }

    private static void bringBy3StepsAtMost() {
        BootsTurnHome boots = Check.laid("h0,0;m8,15,0,0,0,3;");
        Check.brings(boots, 8, 12, 3);
        Check.brings(boots, 8, 11, 1, 3);
        Check.brings(boots, 8, 9, 3, 3);
        Check.brings(boots, 8, 8, 1, 3, 3);
        Check.brings(boots, 8, 6, 3, 3, 3);
    }

    private static void bringByThreeOrders() {
        // by at most 9 columns; each row more costs no column as long as the steps are slant
        BootsTurnHome boots = Check.laid("h0,0;m0,0,2,0,0,3;");
        Check.brings(boots, 9, 0, 3, 3, 3);
        Check.brings(boots, 9, 3, 3, 3, 13);
        Check.brings(boots, 9, 9, 13, 3, 3);
    }

    private static void bringByNone() {
        for (int[] cell : new int[][] {{10, 0}, {0, 10}, {10, 10}, {15, 15}, {9, 1}, {9, 2}}) {
            BootsTurnHome boots = Check.laid("h0,0;m0,0,2,0,0,3;");
            for (int k = 0; k <= 3; k++) {
                Check.due("bring to " + cell[0] + "," + cell[1] + ", " + k, boots.bring(0, cell[0], cell[1], k), NONE);
            }
        }
    }

    private static void bringIsTheFirst() {
        BootsTurnHome boots = Check.laid("h0,0;m8,8,0,0,0,3;");
        // straight and then slant comes ahead of slant and then straight
        Check.brings(boots, 9, 6, 1, 11);
        Check.brings(boots, 7, 6, 1, 71);
        // of two rows with one R at first the one with the lower N
        Check.brings(boots, 8, 4, 1, 3);
        Check.brings(boots, 8, 3, 2, 3);
        Check.brings(boots, 10, 7, 1, 22);
        // back by a slant and the other slant, which comes ahead of turning round
        Check.brings(boots, 8, 12, 32, 22);
    }

    private static void bringAtTheEdge() {
        // one, two or three steps end at the edge alike: one is the first
        Check.brings(Check.laid("h0,0;m8,1,0,0,0,3;"), 8, 0, 1);
        Check.brings(Check.laid("h0,0;m8,2,0,0,0,3;"), 8, 0, 2);
        Check.brings(Check.laid("h0,0;m8,14,4,0,0,3;"), 8, 15, 1);
        Check.brings(Check.laid("h0,0;m1,8,6,0,0,3;"), 0, 8, 1);
        Check.brings(Check.laid("h0,0;m14,8,2,0,0,3;"), 15, 8, 1);
        // his home is just behind him: both ways being alike, his boots turn him from the east to the right
        Check.brings(Check.laid("h0,0;m8,0,0,0,0,0;"), 10, 1, 21, 1);
    }

    private static void bringIsOfTheManAlone() {
        BootsTurnHome boots = Check.laid("h0,0;" + "m3,3,0,0,0,3;".repeat(5) + "m8,8,0,0,0,3;");
        Check.due("bring(5, 8, 5, 0)", boots.bring(5, 8, 5, 0), 1);
        Check.due("bring(5, 8, 5, 1)", boots.bring(5, 8, 5, 1), 3);
        Check.due("bring(4, 8, 5, 0)", boots.bring(4, 8, 5, 0), 2);
    }

    private static void pairsOfOneMan() {
        Check.pairs(Check.booted("00"), 0, 0);
        Check.pairs(Check.booted("33"), 0, 0);
        Check.pairs(Check.booted("03"), 1, 0);
    }

    private static void pairsOfNone() {
        Check.pairs(Check.booted("11 11"), 0, 0, 1);
        Check.pairs(Check.booted("22 22 22 22 22 22"), 0, 0, 1, 2, 3, 4, 5);
    }

    private static void pairsOfAll() {
        Check.pairs(Check.booted("01 10"), 2, 0, 1);
        Check.pairs(Check.booted("00 11"), 2, 1, 0);
        Check.pairs(Check.booted("00 11 22 33"), 4, 1, 0, 3, 2);
        Check.pairs(Check.booted("00 00 00 11 11 11"), 6, 3, 4, 5, 0, 1, 2);
        Check.pairs(Check.booted("01 02 03 10 12 13"), 6, 0, 1, 2, 3, 4, 5);
    }

    private static void pairsAreOfBootsThatThereAre() {
        // one boot from 1 for three men with a left one from 0: only one of them can have it
        Check.pairs(Check.booted("00 00 01"), 1, 0, 1, 2);
        Check.pairs(Check.booted("00 00 00 00 00 01"), 1, 0, 1, 2, 3, 4, 5);
        Check.pairs(Check.booted("00 00 00 00 00 11"), 2, 0, 1, 2, 3, 5, 4);
    }

    private static void pairsAreTheFirst() {
        // man 0 keeps his if as many go straight then
        Check.pairs(Check.booted("01 02 00"), 2, 0, 1, 2);
        Check.pairs(Check.booted("01 11 22"), 3, 0, 2, 1);
        Check.pairs(Check.booted("00 10 21"), 3, 2, 0, 1);
    }

    private static void pairsGoByRightBootsOfNow() {
        BootsTurnHome boots = Check.booted("00 11");
        Check.pairs(boots, 2, 1, 0);
        boots.swap(0, 1);
        Check.pairs(boots, 2, 0, 1);
        boots.undo();
        Check.pairs(boots, 2, 1, 0);
    }

    private static void homewardOfNoOrder() {
        Check.due("homeward(0) at home", Check.laid("h8,8;m8,8,0,0,0,0;").homeward(0), 0);
        Check.due("homeward(0) at the left boot's", Check.laid("h8,8;h3,3;m8,8,0,0,1,0;").homeward(0), 0);
        Check.due("homeward(0) at the right boot's", Check.laid("h3,12;h8,8;m8,8,0,0,1,0;").homeward(0), NONE);
    }

    private static void homewardToTheFarEdge() {
        for (int away = 0; away <= 15; away++) {
            Check.due("homeward(0), " + away, Check.laid("h" + away + ",4;m0,4,2,0,0,3;").homeward(0), away);
        }
        Check.due("homeward(0) on a slant", Check.laid("h0,0;m15,15,7,0,0,3;").homeward(0), 15);
        Check.due("homeward(0) past it", Check.laid("h0,0;m15,14,7,0,0,3;").homeward(0), NONE);
    }

    private static void homewardOf60() {
        // one in new boots who goes round for 61 orders, and for 60 behind the first of them
        BootsTurnHome boots = Check.laid("h1,13;m0,7,0,0,0,2;");
        Check.due("homeward(0), 61", boots.homeward(0), NONE);
        boots.order(0, 1);
        Check.due("homeward(0), 60", boots.homeward(0), 60);
        boots.order(0, 1);
        Check.due("homeward(0), 59", boots.homeward(0), 59);
        for (int k = 0; k < 59; k++) {
            Check.due("man(0, 8), not yet", boots.man(0, 8), 0);
            boots.order(0, 1);
        }
        Check.due("man(0, 8)", boots.man(0, 8), 1);
    }

    private static void homewardOfNobody() {
        Check.due("homeward(0) in clogs", Check.laid("h8,0;m8,8,2,0,0,3;").homeward(0), NONE);
        BootsTurnHome tied = Check.laid("h8,0;m8,8,2,0,0,0;");
        tied.tie(0, true);
        Check.due("homeward(0), tied", tied.homeward(0), NONE);
        // a contrary one who looks just away from it never turns
        Check.due("homeward(0), just away", Check.laid("h8,7;m8,8,4,0,0,4;").homeward(0), NONE);
    }
}

/** Promises 16 to 20: behind, strayed, bring, pairs, homeward. */
public final class RowsTest {
    private static final int BAD = BootsTurnHome.BAD, NONE = BootsTurnHome.NONE;
    private static final int LEAST = Integer.MIN_VALUE, MOST = Integer.MAX_VALUE;

    public static void main(String[] args) {
        behind();
        behindNewBoots();
        behindRefused();
        strayed();
        bringOne();
        bringSeveral();
        bringWithBoots();
        bringNobody();
        bringRefused();
        pairs();
        pairsOfSix();
        pairsRefused();
        homeward();
        homewardWithBoots();
        Check.finish("RowsTest");
    }

    private static void behind() {
        BootsTurnHome boots = Check.laid("h8,0;m8,8,4,0,0,3;m8,8,4,0,0,0;m8,8,4,0,0,1;o0,1;o2,2;o7,3;");
        int[][] places = {
            {80804, 80904, 60906, 31205},
            // his home is north of him, at last north-east: he turns from 4 to 5, from 7 to 0, from 7 to 0
            {80804, 80905, 60700, 30400},
            {80804, 80906, 80700, 50401},
        };
        for (int i = 0; i < 3; i++) {
            for (int k = 0; k <= 3; k++) {
                Check.due(i + " behind " + k, Check.placeBehind(boots, k, i), places[i][k]);
            }
        }
        Check.due("count(3): nobody went", boots.count(3), 0);
        Check.due("place of 1", Check.place(boots, 1), 80804);
        boots.order(0, 1);
        boots.order(2, 2);
        boots.order(7, 3);
        for (int i = 0; i < 3; i++) {
            Check.due(i + " is where he was foreseen", Check.place(boots, i), places[i][3]);
        }
        boots.undo();
        boots.undo();
        boots.undo();
        boots.tie(1, true);
        Check.due("tied, behind 3", Check.placeBehind(boots, 3, 1), 31205);
    }

    private static void behindNewBoots() {
        BootsTurnHome boots = Check.laid("h8,0;m8,8,4,0,0,2;o0,0;o0,0;o0,0;");
        int[] first = {4, 4, 5, 5};
        int[] second = {4, 5, 5, 6};
        for (int k = 0; k <= 3; k++) {
            Check.due("behind(" + k + ", 0, 2)", boots.behind(k, 0, 2), first[k]);
        }
        boots.order(0, 0);
        for (int k = 0; k <= 3; k++) {
            Check.due("behind(" + k + ", 0, 2) and a halt", boots.behind(k, 0, 2), second[k]);
        }
    }

    private static void behindRefused() {
        BootsTurnHome boots = new BootsTurnHome();
        for (int bad : new int[] {-1, LEAST, MOST}) {
            Check.due("behind: k " + bad, boots.behind(bad, 0, 0), BAD);
            Check.due("behind: i " + bad, boots.behind(0, bad, 0), BAD);
            Check.due("behind: what " + bad, boots.behind(0, 0, bad), BAD);
        }
        Check.due("behind(4, 0, 0)", boots.behind(4, 0, 0), BAD);
        Check.due("behind(0, 5, 0)", boots.behind(0, 5, 0), BAD);
        Check.due("behind(0, 0, 3)", boots.behind(0, 0, 3), BAD);
        boots.noRow();
        Check.due("behind(0, 0, 0)", boots.behind(0, 0, 0), 8);
        Check.due("behind(1, 0, 0)", boots.behind(1, 0, 0), BAD);
    }

    private static void strayed() {
        // who looks west and who looks east part by two columns a step
        BootsTurnHome boots = Check.laid("h0,0;m8,8,6,0,0,3;m8,8,2,0,0,3;o0,1;o0,1;o0,1;o4,3;");
        Check.due("strayed() at 6 apart", boots.strayed(), 3);
        Check.due("count(3)", boots.count(3), 0);
        boots.order(0, 2);
        Check.due("strayed() from 4 apart", boots.strayed(), 1);
        boots.noRow();
        Check.due("strayed() of no row", boots.strayed(), NONE);
        boots.tell(4, 2);
        Check.due("strayed() when they come together", boots.strayed(), NONE);
        boots.undo();
        boots.order(0, 3);
        Check.due("lost now", boots.count(5), 1);
        Check.due("strayed(): what is now does not count", boots.strayed(), NONE);
        boots.tell(0, 5);
        Check.due("strayed() at the second", boots.strayed(), 2);
        Check.due("strayed() of exactly 4 apart", Check.laid("h0,0;m8,8,6,0,0,3;m8,8,2,0,0,3;o0,2;").strayed(), NONE);
    }

    private static void bringOne() {
        BootsTurnHome boots = Check.laid("h0,0;m8,8,0,0,0,3;");
        Check.brings(boots, 8, 8);
        Check.brings(boots, 8, 7, 1);
        Check.brings(boots, 8, 5, 3);
        Check.brings(boots, 10, 6, 12);
        Check.brings(boots, 9, 8, 21);
        Check.brings(boots, 11, 11, 33);
        Check.brings(boots, 7, 7, 71);
        // at the edge one, two and three steps end alike: the first is one
        Check.brings(Check.laid("h0,0;m8,1,0,0,0,3;"), 8, 0, 1);
        Check.brings(Check.laid("h0,0;m8,1,2,0,0,3;"), 8, 0, 61);
        // one who is there needs no order, though some would leave him there
        Check.brings(Check.laid("h0,0;m0,0,0,0,0,3;"), 0, 0);
    }

    private static void bringSeveral() {
        BootsTurnHome boots = Check.laid("h0,0;m8,8,0,0,0,3;");
        Check.brings(boots, 9, 6, 1, 11);
        Check.brings(boots, 8, 4, 1, 3);
        Check.brings(boots, 8, 2, 3, 3);
        Check.brings(boots, 12, 1, 3, 11, 3);
        Check.brings(boots, 8, 1, 1, 3, 3);
        Check.brings(boots, 0, 0, 72, 3, 3);
        Check.due("count(3)", boots.count(3), 0);
        Check.due("place of 0", Check.place(boots, 0), 80800);
    }

    private static void bringWithBoots() {
        // behind one step north the boots turn him from the north to the north-east
        Check.brings(Check.laid("h8,15;m8,8,0,0,0,0;"), 9, 6, 1, 1);
        BootsTurnHome tied = Check.laid("h8,15;m8,8,0,0,0,0;");
        tied.tie(0, true);
        Check.brings(tied, 9, 6, 1, 11);
        // new boots turn behind the second halt of all
        BootsTurnHome boots = Check.laid("h8,15;m8,8,0,0,0,2;");
        Check.brings(boots, 9, 6, 1, 11);
        Check.brings(boots, 12, 1, 3, 11, 73);
        boots.order(0, 0);
        Check.brings(boots, 9, 6, 1, 1);
        Check.brings(boots, 12, 1, 3, 1, 3);
        // the other men do not matter
        BootsTurnHome two = Check.laid("h8,15;m3,3,0,0,0,0;m8,8,0,0,0,0;");
        Check.due("bring(1, 9, 6, 0)", two.bring(1, 9, 6, 0), 2);
        Check.due("bring(1, 9, 6, 2)", two.bring(1, 9, 6, 2), 1);
    }

    private static void bringNobody() {
        BootsTurnHome boots = Check.laid("h0,0;m0,0,0,0,0,3;");
        for (int k = 0; k <= 3; k++) {
            Check.due("bring(0, 10, 0, " + k + ")", boots.bring(0, 10, 0, k), NONE);
            Check.due("bring(0, 15, 15, " + k + ")", boots.bring(0, 15, 15, k), NONE);
            // near enough, but three orders do not go 9 columns and 4 rows
            Check.due("bring(0, 9, 4, " + k + ")", boots.bring(0, 9, 4, k), NONE);
        }
        Check.due("bring(0, 9, 3, 0)", boots.bring(0, 9, 3, 0), 3);
        Check.due("bring(0, 9, 9, 0)", boots.bring(0, 9, 9, 0), 3);
    }

    private static void bringRefused() {
        BootsTurnHome boots = new BootsTurnHome();
        for (int bad : new int[] {-1, LEAST, MOST}) {
            Check.due("bring: i " + bad, boots.bring(bad, 0, 0, 0), BAD);
            Check.due("bring: x " + bad, boots.bring(0, bad, 0, 0), BAD);
            Check.due("bring: y " + bad, boots.bring(0, 0, bad, 0), BAD);
            Check.due("bring: k " + bad, boots.bring(0, 0, 0, bad), BAD);
        }
        Check.due("bring(5, 0, 0, 0)", boots.bring(5, 0, 0, 0), BAD);
        Check.due("bring(0, 16, 0, 0)", boots.bring(0, 16, 0, 0), BAD);
        Check.due("bring(0, 0, 16, 0)", boots.bring(0, 0, 16, 0), BAD);
        Check.due("bring(0, 0, 0, 4)", boots.bring(0, 0, 0, 4), BAD);
        // of several the first: a bad number, though there is no row either
        Check.due("bring too far, k 4", Check.laid("h0,0;m0,0,0,0,0,3;").bring(0, 15, 15, 4), BAD);
    }

    private static void pairs() {
        Check.pairs(Check.booted("00"), 0, 0);
        Check.pairs(Check.booted("01"), 1, 0);
        Check.pairs(Check.booted("00 11"), 2, 1, 0);
        Check.pairs(Check.booted("01 10"), 2, 0, 1);
        Check.pairs(Check.booted("00 00 10"), 1, 0, 1, 2);
        Check.pairs(Check.booted("00 11 22"), 3, 1, 2, 0);
        BootsTurnHome boots = Check.booted("00 11 22");
        boots.swap(0, 1);
        Check.pairs(boots, 3, 0, 2, 1);
        Check.due("man(1, 4): nobody was given anything", boots.man(1, 4), 0);
        Check.due("count(7)", boots.count(7), 1);
    }

    private static void pairsOfSix() {
        Check.pairs(Check.booted("00 00 00 11 11 11"), 6, 3, 4, 5, 0, 1, 2);
        // only two boots of another home for four men: the last two of these get them
        Check.pairs(Check.booted("00 00 00 00 11 11"), 4, 0, 1, 4, 5, 2, 3);
        Check.pairs(Check.booted("22 22 22 22 22 22"), 0, 0, 1, 2, 3, 4, 5);
    }

    private static void pairsRefused() {
        BootsTurnHome boots = new BootsTurnHome();
        for (int bad : new int[] {-2, 5, LEAST, MOST}) {
            Check.due("pairs(" + bad + ")", boots.pairs(bad), BAD);
        }
    }

    private static void homeward() {
        BootsTurnHome boots = Check.laid("h8,0;h3,3;m8,8,0,0,0,3;m8,8,4,0,0,3;m8,0,4,0,1,0;m8,4,0,0,1,0;m3,8,0,0,1,0;");
        Check.due("homeward(0)", boots.homeward(0), 8);
        Check.due("homeward(1) away from it", boots.homeward(1), NONE);
        Check.due("homeward(2) who is there", boots.homeward(2), 0);
        Check.due("homeward(3), the left boot's home", boots.homeward(3), 4);
        Check.due("homeward(4), the right boot's is none", boots.homeward(4), NONE);
        Check.due("count(3)", boots.count(3), 0);
        for (int bad : new int[] {-1, 5, LEAST, MOST}) {
            Check.due("homeward(" + bad + ")", boots.homeward(bad), BAD);
        }
    }

    private static void homewardWithBoots() {
        // south of it, one looks 1 and goes to 9,7, looks 0: 9,6 .. 9,3, from where it is still north, ..
        BootsTurnHome boots = Check.laid("h8,0;m8,8,1,0,0,0;");
        int orders = boots.homeward(0);
        for (int k = 0; k < orders; k++) {
            Check.due("not yet home", boots.man(0, 8), 0);
            boots.order(0, 1);
        }
        Check.due("home", boots.man(0, 8), 1);
        boots = Check.laid("h8,0;m8,8,1,0,0,0;");
        boots.tie(0, true);
        Check.due("homeward(0), tied", boots.homeward(0), NONE);
    }
}

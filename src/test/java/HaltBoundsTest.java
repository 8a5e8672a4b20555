/** The bounds that section 2 of the document names: steps, TOWARD, ORDERS, HALTS, TIED, UNDONE, APART, LOST, HOME. */
public final class HaltBoundsTest {
    private static final int BAD = BootsTurnHome.BAD, NO = BootsTurnHome.NO, NONE = BootsTurnHome.NONE;
    private static final int PLAIN = 0, OLD = 1, NEW = 2, CLOGS = 3, CONTRARY = 4;

    public static void main(String[] args) {
        whoWouldStepOutStays();
        turningWrapsAround();
        towardByHalves();
        towardItself();
        noStepsAndNine();
        plainTurnsByOne();
        oldTurnsByTwoOrLess();
        newTurnsAtEachSecondHalt();
        clogsDoNotTurn();
        contraryTurnsTheOtherWay();
        theTiedDoNotTurn();
        twoHomesDoNotTurn();
        whoIsAtItDoesNotTurn();
        fromWhereHeIs();
        allHaltBehindAllMarches();
        tiedOfNobodyAndAll();
        changedBootsPullAtOnce();
        theLastEightAreUndone();
        whatIsRefusedIsNotUndone();
        apartIsTheMore();
        man0IsNeverLost();
        lostComesAndGoes();
        homeIsOfTheLeftBoot();
        as512Calls();
        Check.finish("HaltBoundsTest");
    }

    private static int roomTo(int at, int step) {
        return step == 0 ? 16 : step > 0 ? 15 - at : at;
    }

    private static void whoWouldStepOutStays() {
        for (int cell = 0; cell < 256; cell++) {
            for (int looks = 0; looks < 8; looks++) {
                int x = cell % 16;
                int y = cell / 16;
                // on a slant one stays at the first edge and does not slip along it
                int room = Math.min(roomTo(x, Check.EAST[looks]), roomTo(y, Check.SOUTH[looks]));
                BootsTurnHome boots = Check.laid("h5,5;m" + x + "," + y + "," + looks + ",0,0,3;");
                for (int n : new int[] {1, 9}) {
                    boots.order(0, n);
                    int gone = Math.min(n, room);
                    Check.due(n + " steps from " + x + "," + y + " looking " + looks, Check.place(boots, 0),
                        10000 * (x + gone * Check.EAST[looks]) + 100 * (y + gone * Check.SOUTH[looks]) + looks);
                    boots.undo();
                }
            }
        }
        // a corner is left by one who turns, not by one who does not
        BootsTurnHome corner = Check.laid("h5,5;m15,0,1,0,0,3;");
        corner.order(0, 9);
        corner.order(0, 9);
        Check.due("in the corner", Check.place(corner, 0), 150001);
        corner.order(4, 1);
        Check.due("out of the corner", Check.place(corner, 0), 140105);
    }

    private static void turningWrapsAround() {
        for (int looks = 0; looks < 8; looks++) {
            for (int r = 0; r < 8; r++) {
                BootsTurnHome boots = Check.laid("h5,5;m8,8," + looks + ",0,0,3;");
                boots.order(r, 0);
                int turned = looks + r < 8 ? looks + r : looks + r - 8;
                Check.due(looks + " turned by " + r, Check.place(boots, 0), 80800 + turned);
            }
        }
        BootsTurnHome boots = Check.laid("h5,5;m8,8,0,0,0,3;");
        for (int k = 1; k <= 20; k++) {
            boots.order(7, 0);
            Check.due("seven eighths, " + k + " times", boots.man(0, 2), (8 - k % 8) % 8);
        }
    }

    /** A slant way goes from half of the greater difference on: 1 of 2, 2 of 3, 2 of 4, .. 8 of 15. */
    private static void towardByHalves() {
        int[] slantFrom = {0, 1, 1, 2, 2, 3, 3, 4, 4, 5, 5, 6, 6, 7, 7, 8};
        for (int columns = 0; columns <= 15; columns++) {
            BootsTurnHome boots = new BootsTurnHome();
            for (int rows = 0; rows <= 15; rows++) {
                if (columns + rows > 0) {
                    boolean across = columns > rows && rows < slantFrom[columns];
                    boolean along = rows > columns && columns < slantFrom[rows];
                    fourWays(boots, columns, rows, across ? 2 : along ? 4 : 3);
                }
            }
        }
    }

    /** South-east as told, and what this is in the other three quarters. */
    private static void fourWays(BootsTurnHome boots, int columns, int rows, int southEast) {
        int northEast = southEast == 2 ? 2 : southEast == 4 ? 0 : 1;
        int southWest = southEast == 2 ? 6 : southEast == 4 ? 4 : 5;
        int northWest = southEast == 2 ? 6 : southEast == 4 ? 0 : 7;
        String by = columns + " columns, " + rows + " rows ";
        if (columns > 0 && rows > 0) {
            Check.due(by + "south-east", boots.toward(0, 0, columns, rows), southEast);
            Check.due(by + "north-east", boots.toward(0, 15, columns, 15 - rows), northEast);
            Check.due(by + "south-west", boots.toward(15, 0, 15 - columns, rows), southWest);
            Check.due(by + "north-west", boots.toward(15, 15, 15 - columns, 15 - rows), northWest);
        } else if (columns > 0) {
            Check.due(by + "east", boots.toward(0, 7, columns, 7), 2);
            Check.due(by + "west", boots.toward(15, 7, 15 - columns, 7), 6);
        } else {
            Check.due(by + "south", boots.toward(7, 0, 7, rows), 4);
            Check.due(by + "north", boots.toward(7, 15, 7, 15 - rows), 0);
        }
    }

    private static void towardItself() {
        BootsTurnHome boots = new BootsTurnHome();
        for (int cell = 0; cell < 256; cell++) {
            Check.due("toward itself", boots.toward(cell % 16, cell / 16, cell % 16, cell / 16), NONE);
        }
    }

    private static void noStepsAndNine() {
        BootsTurnHome boots = Check.laid("h5,5;m0,0,3,0,0,3;");
        Check.due("order(0, 0)", boots.order(0, 0), 0);
        Check.due("no step", Check.place(boots, 0), 3);
        Check.due("count(3)", boots.count(3), 1);
        Check.due("order(0, 9)", boots.order(0, 9), 0);
        Check.due("nine steps", Check.place(boots, 0), 90903);
        Check.due("order(0, 10)", boots.order(0, 10), BAD);
        Check.due("still there", Check.place(boots, 0), 90903);
    }

    /**
     * By how many eighths to the right one of the kind turns at the halt-th halt of all, by how many
     * it would take (0 to 7), for each way he looks and each way his home lies.
     */
    private static void turns(int kind, int halt, int... eighths) {
        for (int looks = 0; looks < 8; looks++) {
            for (int way = 0; way < 8; way++) {
                int homeX = 8 + 3 * Check.EAST[way];
                int homeY = 8 + 3 * Check.SOUTH[way];
                BootsTurnHome boots = Check.laid("h" + homeX + "," + homeY + ";m8,8," + looks + ",0,0," + kind + ";");
                // the tied do not turn, so he looks as at first till the last halt
                boots.tie(0, true);
                for (int k = 1; k < halt; k++) {
                    boots.order(0, 0);
                }
                boots.tie(0, false);
                boots.order(0, 0);
                int takes = (way - looks + 8) % 8;
                Check.due("kind " + kind + " looking " + looks + ", home at " + way + ", halt " + halt,
                    Check.place(boots, 0), 80800 + (looks + eighths[takes] + 8) % 8);
            }
        }
    }

    private static void plainTurnsByOne() {
        for (int halt = 1; halt <= 4; halt++) {
            turns(PLAIN, halt, 0, 1, 1, 1, 1, -1, -1, -1);
        }
    }

    private static void oldTurnsByTwoOrLess() {
        // by no more eighths than it takes, so by 1 where it takes 1
        for (int halt = 1; halt <= 4; halt++) {
            turns(OLD, halt, 0, 1, 2, 2, 2, -2, -2, -1);
        }
    }

    private static void newTurnsAtEachSecondHalt() {
        for (int halt = 1; halt <= 5; halt += 2) {
            turns(NEW, halt, 0, 0, 0, 0, 0, 0, 0, 0);
            turns(NEW, halt + 1, 0, 1, 1, 1, 1, -1, -1, -1);
        }
        // halts at which he had two homes' boots count as well
        BootsTurnHome boots = Check.laid("h8,0;h0,0;m8,8,4,0,1,2;m8,8,4,1,0,3;");
        boots.order(0, 0);
        boots.swap(0, 1);
        boots.order(0, 0);
        Check.due("behind the second halt", boots.man(0, 2), 5);
        // an order undone, and one given behind what is kept, was none
        boots.keep();
        boots.order(0, 0);
        boots.undo();
        boots.order(0, 0);
        Check.due("behind the third halt", boots.man(0, 2), 5);
        boots.back();
        boots.order(0, 0);
        Check.due("behind the third halt once more", boots.man(0, 2), 5);
        boots.order(0, 0);
        Check.due("behind the fourth halt", boots.man(0, 2), 6);
    }

    private static void clogsDoNotTurn() {
        for (int halt = 1; halt <= 4; halt++) {
            turns(CLOGS, halt, 0, 0, 0, 0, 0, 0, 0, 0);
        }
    }

    private static void contraryTurnsTheOtherWay() {
        // to the left where he looks toward it, not at all where he looks just away
        for (int halt = 1; halt <= 4; halt++) {
            turns(CONTRARY, halt, -1, -1, -1, -1, 0, 1, 1, 1);
        }
        BootsTurnHome boots = Check.laid("h8,0;m8,8,0,0,0,4;");
        int[] looks = {7, 6, 5, 4, 4, 4};
        for (int way : looks) {
            boots.order(0, 0);
            Check.due("contrary, from toward it till just away", boots.man(0, 2), way);
        }
    }

    private static void theTiedDoNotTurn() {
        for (int kind = 0; kind < 5; kind++) {
            for (int looks = 0; looks < 8; looks++) {
                BootsTurnHome boots = Check.laid("h8,0;m8,8," + looks + ",0,0," + kind + ";");
                boots.tie(0, true);
                boots.order(0, 0);
                boots.order(0, 0);
                Check.due("tied, kind " + kind, boots.man(0, 2), looks);
                boots.order(1, 1);
                Check.due("tied, he turns by order", boots.man(0, 2), (looks + 1) % 8);
                Check.due("tied, he marches", boots.man(0, 0), 8 + Check.EAST[(looks + 1) % 8]);
            }
        }
    }

    private static void twoHomesDoNotTurn() {
        for (int kind = 0; kind < 5; kind++) {
            // two homes, though at one cell
            BootsTurnHome boots = Check.laid("h8,0;h8,0;m8,8,2,0,1," + kind + ";m8,8,2,1,0," + kind + ";");
            boots.order(0, 0);
            boots.order(0, 0);
            Check.due("boots from 0 and 1, kind " + kind, boots.man(0, 2), 2);
            Check.due("boots from 1 and 0, kind " + kind, boots.man(1, 2), 2);
        }
    }

    private static void whoIsAtItDoesNotTurn() {
        for (int kind = 0; kind < 5; kind++) {
            for (int looks = 0; looks < 8; looks++) {
                BootsTurnHome boots = Check.laid("h8,8;m8,8," + looks + ",0,0," + kind + ";");
                boots.order(0, 0);
                boots.order(0, 0);
                Check.due("at home, kind " + kind, boots.man(0, 2), looks);
            }
        }
        // he who comes to it at the march's end does not turn, he who goes through it does
        BootsTurnHome boots = Check.laid("h8,8;m8,11,0,0,0,0;m8,10,0,0,0,0;m8,12,0,0,0,0;");
        boots.order(0, 3);
        Check.due("at it", Check.place(boots, 0), 80800);
        Check.due("beyond it", Check.place(boots, 1), 80701);
        Check.due("ahead of it", Check.place(boots, 2), 80900);
        // in a corner at the edge of the land he is at it, too
        BootsTurnHome corner = Check.laid("h0,0;m1,1,7,0,0,0;");
        corner.order(0, 9);
        Check.due("at it in the corner", Check.place(corner, 0), 7);
    }

    private static void fromWhereHeIs() {
        // from 8,8 the home is east of him, from 8,4, 4 rows of 6 columns away, south-east
        BootsTurnHome boots = Check.laid("h14,8;m8,8,0,0,0,1;");
        boots.order(0, 4);
        Check.due("behind the march", Check.place(boots, 0), 80402);
        boots.order(0, 0);
        Check.due("toward it", Check.place(boots, 0), 80403);
    }

    private static void allHaltBehindAllMarches() {
        // where the others are makes no difference to anybody
        String[] men = {"m8,8,0,0,0,0;", "m3,3,2,0,0,1;", "m12,1,5,0,0,4;"};
        BootsTurnHome all = Check.laid("h8,5;" + men[0] + men[1] + men[2]);
        all.order(3, 2);
        for (int i = 0; i < 3; i++) {
            BootsTurnHome alone = Check.laid("h8,5;" + men[i]);
            alone.order(3, 2);
            Check.due("alone and among others", Check.place(all, i), Check.place(alone, 0));
        }
    }

    private static void tiedOfNobodyAndAll() {
        BootsTurnHome boots = Check.laid("h0,0;" + "m8,8,0,0,0,0;".repeat(6));
        Check.due("count(4)", boots.count(4), 0);
        for (int i = 0; i < 6; i++) {
            Check.due("tie(" + i + ", true)", boots.tie(i, true), i + 1);
            Check.due("tie(" + i + ", true) again", boots.tie(i, true), NO);
        }
        Check.due("count(4)", boots.count(4), 6);
        for (int i = 5; i >= 0; i--) {
            Check.due("tie(" + i + ", false)", boots.tie(i, false), i);
            Check.due("tie(" + i + ", false) again", boots.tie(i, false), NO);
        }
    }

    private static void changedBootsPullAtOnce() {
        BootsTurnHome boots = Check.laid("h8,0;h0,8;m8,8,4,0,1,0;m8,8,4,1,0,0;");
        boots.order(0, 0);
        Check.due("two homes", Check.place(boots, 0), 80804);
        Check.due("swap(1, 0)", boots.swap(1, 0), 1);
        boots.order(0, 0);
        Check.due("0 turns to the north", boots.man(0, 2), 5);
        Check.due("1 turns to the west", boots.man(1, 2), 5);
        // who have a boot from one home change them all the same
        BootsTurnHome same = Check.laid("h8,0;m8,8,4,0,0,0;m8,8,4,0,0,0;");
        Check.due("swap(0, 1)", same.swap(0, 1), 0);
        Check.due("count(7)", same.count(7), 1);
        Check.due("undo()", same.undo(), 0);
    }

    private static void theLastEightAreUndone() {
        for (int done = 0; done <= 10; done++) {
            BootsTurnHome boots = Check.laid("h0,0;h1,1;m0,0,2,0,0,3;m0,0,2,1,1,3;");
            for (int k = 0; k < done; k++) {
                doOne(boots, k);
            }
            int last = Math.min(8, done);
            Check.due("count(7) behind " + done, boots.count(7), last);
            for (int left = last - 1; left >= 0; left--) {
                Check.due("undo() behind " + done, boots.undo(), left);
                asBehind(boots, done - last + left);
            }
            Check.due("undo() behind " + done, boots.undo(), NO);
            asBehind(boots, done - last);
        }
    }

    /** An order, a tying, a change, again and again. */
    private static void doOne(BootsTurnHome boots, int k) {
        switch (k % 3) {
            case 0: boots.order(0, 1); break;
            case 1: boots.tie(0, k % 2 == 1); break;
            default: boots.swap(0, 1);
        }
    }

    /** How things stand behind so many of them: the 2nd, 5th and 8th tie and untie, the 3rd, 6th, 9th change. */
    private static void asBehind(BootsTurnHome boots, int done) {
        int[] tied = {0, 0, 1, 1, 1, 0, 0, 0, 1, 1, 1};
        int[] right = {0, 0, 0, 1, 1, 1, 0, 0, 0, 1, 1};
        Check.due("column behind " + done, boots.man(0, 0), (done + 2) / 3);
        Check.due("count(3) behind " + done, boots.count(3), (done + 2) / 3);
        Check.due("tied behind " + done, boots.man(0, 6), tied[done]);
        Check.due("right boot behind " + done, boots.man(0, 4), right[done]);
        Check.due("the other's behind " + done, boots.man(1, 4), 1 - right[done]);
    }

    private static void whatIsRefusedIsNotUndone() {
        BootsTurnHome boots = new BootsTurnHome();
        boots.tie(0, true);
        boots.order(8, 0);
        boots.order(0, 10);
        boots.tie(0, true);
        boots.tie(1, false);
        boots.tie(9, true);
        boots.swap(2, 2);
        boots.swap(0, 5);
        boots.tell(1, 1);
        boots.seen(0, 1, 1);
        boots.write('h');
        boots.lay();
        boots.keep();
        Check.due("count(7)", boots.count(7), 1);
        Check.due("undo()", boots.undo(), 0);
        Check.due("man(0, 6)", boots.man(0, 6), 0);
        // what was undone cannot be done again, nor undone again
        Check.due("undo()", boots.undo(), NO);
    }

    private static void apartIsTheMore() {
        int[][] cells = {{3, 0}, {0, 3}, {3, 3}, {3, 1}, {1, 3}, {3, 2}, {2, 2}, {4, 0}, {0, 4}, {4, 3}, {3, 4}, {4, 4}, {15, 15}};
        for (int[] cell : cells) {
            boolean lost = cell[0] > 3 || cell[1] > 3;
            BootsTurnHome boots = Check.laid("h0,0;m0,0,0,0,0,0;m" + cell[0] + "," + cell[1] + ",0,0,0,0;d3;");
            Check.due("d3, " + cell[0] + "," + cell[1], boots.man(1, 7), lost ? 1 : 0);
            // west and north of man 0 as well as east and south
            boots = Check.laid("h0,0;m15,15,0,0,0,0;m" + (15 - cell[0]) + "," + (15 - cell[1]) + ",0,0,0,0;d3;");
            Check.due("d3, -" + cell[0] + ",-" + cell[1], boots.man(1, 7), lost ? 1 : 0);
            Check.due("count(5)", boots.count(5), lost ? 1 : 0);
        }
        Check.due("d15 from corner to corner", Check.laid("h0,0;m0,15,0,0,0,0;m15,0,0,0,0,0;d15;").count(5), 0);
        Check.due("d14 from corner to corner", Check.laid("h0,0;m0,15,0,0,0,0;m15,0,0,0,0,0;d14;").count(5), 1);
    }

    private static void man0IsNeverLost() {
        BootsTurnHome boots = Check.laid("h0,0;m0,0,0,0,0,0;" + "m15,15,0,0,0,0;".repeat(5) + "d1;");
        Check.due("man(0, 7)", boots.man(0, 7), 0);
        Check.due("count(5)", boots.count(5), 5);
        Check.due("order(0, 0)", boots.order(0, 0), 5);
        // he who is alone is not lost, wherever he goes
        Check.due("order(0, 9)", Check.laid("h0,0;m0,0,3,0,0,3;d1;").order(0, 9), 0);
    }

    private static void lostComesAndGoes() {
        // they part by two columns at each step; lost from 6 apart on, of 5
        BootsTurnHome boots = Check.laid("h0,0;m8,8,6,0,0,3;m9,8,2,0,0,3;d5;");
        int[] apart = {3, 5, 7};
        for (int far : apart) {
            Check.due(far + " apart", boots.order(0, 1), far > 5 ? 1 : 0);
        }
        Check.due("order(4, 1): they turn round", boots.order(4, 1), 0);
        boots.undo();
        Check.due("count(5)", boots.count(5), 1);
    }

    private static void homeIsOfTheLeftBoot() {
        BootsTurnHome boots = Check.laid("h3,3;h4,4;m3,3,0,0,1,0;m4,4,0,0,1,0;m3,4,0,0,0,0;m4,3,0,0,0,0;m3,2,0,0,0,0;");
        int[] home = {1, 0, 0, 0, 0};
        for (int i = 0; i < 5; i++) {
            Check.due("man(" + i + ", 8)", boots.man(i, 8), home[i]);
        }
        boots.swap(0, 2);
        boots.swap(1, 3);
        for (int i = 0; i < 5; i++) {
            Check.due("man(" + i + ", 8), right boots changed", boots.man(i, 8), home[i]);
        }
    }

    private static void as512Calls() {
        BootsTurnHome boots = new BootsTurnHome();
        for (int k = 0; k < 509; k++) {
            boots.order(k % 8, k % 10);
        }
        Check.due("count(3), the 510th call", boots.count(3), 509);
        Check.due("count(7), the 511th call", boots.count(7), 8);
        Check.due("undo(), the 512th call", boots.undo(), 7);
    }
}

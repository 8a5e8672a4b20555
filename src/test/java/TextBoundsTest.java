import java.util.List;

/** The bounds that section 1 of the document names: letters, items, their numbers, FAULT, LAID. */
public final class TextBoundsTest {
    private static final int BAD = BootsTurnHome.BAD, NO = BootsTurnHome.NO;
    private static final int FULL = BootsTurnHome.FULL, NONE = BootsTurnHome.NONE;

    public static void main(String[] args) {
        aNewObjectIsLaidAtFirst();
        lettersAre32To126();
        atMost200Letters();
        anItemCutShort();
        numbersHaveOneOrTwoFigures();
        numbersArePartedByCommas();
        aSemicolonIsBehindTheLast();
        asManyNumbersAsTold();
        lettersOfItems();
        homesAre0To15();
        homesAre4AtMost();
        menStandAndLook();
        kindsAre0To4();
        bootsAreFromHomesToldAhead();
        menAre6AtMost();
        ordersTurnAndMarch();
        ordersAre6AtMost();
        lostIsBeyond1To15();
        lostIsBeyond4Without();
        ofSeveralLostTheLast();
        faultIsTheFirst();
        faultOfNothing();
        laidNeedsAHomeAndAMan();
        laidNeedsNoFault();
        laidWithTheMost();
        laidWithFewerThanBefore();
        laidAgain();
        wipeOfFullAndEmpty();
        Check.finish("TextBoundsTest");
    }

    /** The text has a fault at the place, or none: told and, as long as there is one, not laid. */
    private static void fault(String text, int want) {
        BootsTurnHome boots = Check.written(text);
        Check.due("fault() of " + text, boots.fault(), want);
        if (want != NONE) {
            Check.due("lay() of " + text, boots.lay(), NO);
            Check.due("count(1): the first land stays", boots.count(1), 5);
        }
    }

    /** Of an item whose numbers are in place of #, those from lowest to highest are so, all others up to 99 are not. */
    private static void numberBounds(String ahead, String item, int lowest, int highest) {
        for (int number = 0; number <= 99; number++) {
            boolean so = number >= lowest && number <= highest;
            String text = ahead + item.replace("#", Integer.toString(number));
            fault(text, so ? NONE : ahead.length());
        }
        fault(ahead + item.replace("#", "-1"), ahead.length());
    }

    private static void aNewObjectIsLaidAtFirst() {
        String first = "h2,13;h12,3;m8,8,0,0,0,0;m8,9,0,0,1,0;m7,8,0,1,1,1;m9,8,0,0,0,2;m8,7,0,1,1,4;o0,3;o2,2;o1,4;";
        BootsTurnHome made = new BootsTurnHome();
        Check.due("count(9): the text is empty", made.count(9), 0);
        Check.due("wipe()", made.wipe(), 0);
        BootsTurnHome laid = Check.laid(first);
        laid.wipe();
        Check.holds("both show the same", Shown.asked(made).equals(Shown.asked(laid)));
    }

    private static void lettersAre32To126() {
        BootsTurnHome boots = new BootsTurnHome();
        for (int letter = -200; letter < 32; letter++) {
            Check.due("write(" + letter + ")", boots.write(letter), BAD);
        }
        for (int letter = 127; letter < 300; letter++) {
            Check.due("write(" + letter + ")", boots.write(letter), BAD);
        }
        boots = new BootsTurnHome();
        for (int letter = 32; letter <= 126; letter++) {
            Check.due("write(" + letter + ")", boots.write(letter), letter - 31);
        }
    }

    private static void atMost200Letters() {
        // 5, 13, 8 and 174 letters: an item ends with the 200th
        String text = "h0,0;m0,0,0,0,0,0;d15;d15;" + "d1;".repeat(58);
        BootsTurnHome boots = new BootsTurnHome();
        for (int place = 0; place < 200; place++) {
            Check.due("write", boots.write(text.charAt(place)), place + 1);
        }
        Check.due("write behind 200", boots.write('x'), FULL);
        Check.due("write behind 200", boots.write('d'), FULL);
        Check.due("count(9)", boots.count(9), 200);
        Check.due("fault(): x is not in it", boots.fault(), NONE);
        Check.due("lay() of 200 letters", boots.lay(), 1);
        Check.due("wipe()", boots.wipe(), 200);
        Check.due("write", boots.write('h'), 1);
    }

    private static void anItemCutShort() {
        // the 200th letter is a figure, and no ; can come behind it
        BootsTurnHome boots = Check.written("d1;".repeat(66) + "d1");
        Check.due("fault()", boots.fault(), 198);
        Check.due("write(;)", boots.write(';'), FULL);
        Check.due("fault()", boots.fault(), 198);
        String man = "h0,0;m12,13,4,0,0,1;";
        for (int length = 0; length <= man.length(); length++) {
            int want = length == 0 || length == 5 || length == 20 ? NONE : length < 5 ? 0 : 5;
            fault(man.substring(0, length), want);
        }
    }

    private static void numbersHaveOneOrTwoFigures() {
        String[] items = {"h#,1;", "h1,#;", "m#,1,1,0,0,1;", "m1,#,1,0,0,1;", "m1,1,#,0,0,1;", "m1,1,1,#,0,1;",
            "m1,1,1,0,#,1;", "m1,1,1,0,0,#;", "o#,1;", "o1,#;", "d#;"};
        String ahead = "h0,0;h0,0;";
        for (String item : items) {
            fault(ahead + item.replace("#", "1"), NONE);
            fault(ahead + item.replace("#", "01"), NONE);
            for (String number : new String[] {"", "001", "000", "100", "+1", " 1", "1 ", "a", "1a", "1.", ":", "/"}) {
                fault(ahead + item.replace("#", number), ahead.length());
            }
        }
        BootsTurnHome boots = Check.laid("h01,00;h02,15;m03,09,07,01,00,04;o07,09;d01;");
        Check.due("home(1, 0)", boots.home(1, 0), 2);
        Check.due("place of 0", Check.place(boots, 0), 30907);
        Check.due("man(0, 3)", boots.man(0, 3), 1);
        Check.due("man(0, 5)", boots.man(0, 5), 4);
        Check.due("told(0)", boots.told(0), 79);
    }

    private static void numbersArePartedByCommas() {
        for (String item : new String[] {"h1,1;", "m1,1,1,0,0,1;", "o1,1;"}) {
            for (int at = item.indexOf(','); at >= 0; at = item.indexOf(',', at + 1)) {
                for (String sign : new String[] {"", ";", ".", " ", ",,", ", ", "-", "+"}) {
                    fault("h0,0;" + item.substring(0, at) + sign + item.substring(at + 1), 5);
                }
            }
            fault("h0,0;" + item.charAt(0) + "," + item.substring(1), 5);
        }
        fault("d,1;", 0);
    }

    private static void aSemicolonIsBehindTheLast() {
        for (String item : new String[] {"h1,1", "m1,1,1,0,0,1", "o1,1", "d1"}) {
            fault("h0,0;" + item + ";", NONE);
            for (String sign : new String[] {"", ",", ":", " ", ",;", " ;"}) {
                fault("h0,0;" + item + sign, 5);
                fault("h0,0;" + item + sign + "d1;", 5);
            }
            // a second one would be an item of its own
            fault("h0,0;" + item + ";;", 6 + item.length());
            fault("h0,0;" + item + "; ", 6 + item.length());
        }
    }

    private static void asManyNumbersAsTold() {
        int[] wanted = {2, 6, 2, 1};
        for (int k = 0; k < 4; k++) {
            for (int many = 0; many <= 8; many++) {
                String numbers = many == 0 ? "" : "0,0,0,0,0,0,0,0,0".substring(0, 2 * many - 2) + (k == 3 ? "1" : "0");
                fault("h0,0;" + "hmod".charAt(k) + numbers + ";", many == wanted[k] ? NONE : 5);
            }
        }
    }

    private static void lettersOfItems() {
        String[] numbers = {"1,1;", "1,1,1,0,0,1;", "1,1;", "1;"};
        for (int letter = 32; letter <= 126; letter++) {
            for (int k = 0; k < 4; k++) {
                boolean so = letter == "hmod".charAt(k) || k == 0 && letter == 'o' || k == 2 && letter == 'h';
                fault("h0,0;" + (char) letter + numbers[k], so ? NONE : 5);
            }
        }
    }

    private static void homesAre0To15() {
        numberBounds("d4;", "h#,0;", 0, 15);
        numberBounds("d4;", "h0,#;", 0, 15);
        BootsTurnHome boots = Check.laid("h0,15;h15,0;m0,0,0,0,0,0;");
        Check.due("home(0, 0)", boots.home(0, 0), 0);
        Check.due("home(0, 1)", boots.home(0, 1), 15);
        Check.due("home(1, 0)", boots.home(1, 0), 15);
        Check.due("home(1, 1)", boots.home(1, 1), 0);
        // row 0 is the northernmost
        Check.due("toward row 0", boots.toward(5, 1, 5, 0), 0);
        Check.due("toward row 15", boots.toward(5, 14, 5, 15), 4);
    }

    private static void homesAre4AtMost() {
        for (int homes = 1; homes <= 4; homes++) {
            BootsTurnHome boots = Check.laid("h0,0;h1,1;h2,2;h3,3;".substring(0, 5 * homes) + "m0,0,0,0,0,0;");
            Check.due("count(0)", boots.count(0), homes);
            Check.due("the last one", boots.home(homes - 1, 0), homes - 1);
            Check.due("one more", boots.home(homes, 0), BAD);
        }
        fault("h0,0;h1,1;h2,2;h3,3;h4,4;", 20);
        fault("h0,0;h1,1;h2,2;h3,3;m0,0,0,3,3,0;h4,4;", 33);
    }

    private static void menStandAndLook() {
        numberBounds("h0,0;", "m#,0,0,0,0,0;", 0, 15);
        numberBounds("h0,0;", "m0,#,0,0,0,0;", 0, 15);
        numberBounds("h0,0;", "m0,0,#,0,0,0;", 0, 7);
        BootsTurnHome boots = Check.laid("h0,0;m0,15,0,0,0,0;m15,0,7,0,0,0;");
        Check.due("place of 0", Check.place(boots, 0), 1500);
        Check.due("place of 1", Check.place(boots, 1), 150007);
    }

    private static void kindsAre0To4() {
        numberBounds("h0,0;", "m0,0,0,0,0,#;", 0, 4);
        for (int kind = 0; kind <= 4; kind++) {
            Check.due("man(0, 5)", Check.laid("h0,0;m0,0,0,0,0," + kind + ";").man(0, 5), kind);
        }
    }

    private static void bootsAreFromHomesToldAhead() {
        fault("m0,0,0,0,0,0;", 0);
        fault("m0,0,0,0,0,0;h0,0;", 0);
        for (int homes = 1; homes <= 4; homes++) {
            String ahead = "h0,0;".repeat(homes);
            numberBounds(ahead, "m0,0,0,#,0,0;", 0, homes - 1);
            numberBounds(ahead, "m0,0,0,0,#,0;", 0, homes - 1);
        }
        // told behind the man is not told ahead
        fault("h0,0;m0,0,0,1,0,0;h0,0;", 5);
        fault("h0,0;m0,0,0,0,1,0;h0,0;", 5);
        fault("h0,0;m0,0,0,0,0,0;h0,0;m0,0,0,1,1,0;", NONE);
    }

    private static void menAre6AtMost() {
        String man = "m0,0,0,0,0,0;";
        for (int men = 1; men <= 6; men++) {
            BootsTurnHome boots = Check.written("h0,0;" + man.repeat(men));
            Check.due("lay()", boots.lay(), men);
            Check.due("count(1)", boots.count(1), men);
            Check.due("the last one", boots.man(men - 1, 0), 0);
            Check.due("one more", boots.man(men, 0), BAD);
        }
        fault("h0,0;" + man.repeat(7), 83);
        fault("h0,0;" + man.repeat(6) + "d1;" + man, 86);
    }

    private static void ordersTurnAndMarch() {
        numberBounds("h0,0;", "o#,0;", 0, 7);
        numberBounds("h0,0;", "o0,#;", 0, 9);
    }

    private static void ordersAre6AtMost() {
        for (int orders = 0; orders <= 6; orders++) {
            BootsTurnHome boots = Check.laid("h0,0;m0,0,0,0,0,0;" + "o0,0;o1,1;o2,2;o3,3;o4,4;o7,9;".substring(0, 5 * orders));
            Check.due("count(2)", boots.count(2), orders);
            for (int k = 0; k < orders; k++) {
                Check.due("told(" + k + ")", boots.told(k), k == 5 ? 79 : 11 * k);
            }
            Check.due("told(" + orders + ")", boots.told(orders), NONE);
        }
        fault("o0,0;".repeat(7), 30);
        fault("o0,0;".repeat(6) + "h0,0;o0,0;", 35);
    }

    /** Whether a man as far from man 0 is lost, of a land whose text says d as told. */
    private static int lostAt(String d, int apart) {
        return Check.laid("h0,0;m0,0,0,0,0,0;m" + apart + ",0,0,0,0,0;" + d).man(1, 7);
    }

    private static void lostIsBeyond1To15() {
        numberBounds("h0,0;", "d#;", 1, 15);
        for (int far = 1; far <= 15; far++) {
            for (int apart = 0; apart <= 15; apart++) {
                Check.due("d" + far + ", " + apart + " apart", lostAt("d" + far + ";", apart), apart > far ? 1 : 0);
            }
        }
    }

    private static void lostIsBeyond4Without() {
        Check.due("4 apart without d", lostAt("", 4), 0);
        Check.due("5 apart without d", lostAt("", 5), 1);
        // nor does what another text said hold on
        BootsTurnHome boots = Check.laid("h0,0;m0,0,0,0,0,0;d9;");
        boots.wipe();
        Check.append(boots, "h0,0;m0,0,0,0,0,0;m5,0,0,0,0,0;");
        boots.lay();
        Check.due("5 apart without d, behind d9", boots.man(1, 7), 1);
    }

    private static void ofSeveralLostTheLast() {
        Check.due("d1;d15;", lostAt("d1;d15;", 15), 0);
        Check.due("d15;d1;", lostAt("d15;d1;", 2), 1);
        Check.due("d1;d2;d3;", lostAt("d1;d2;d3;", 3), 0);
        Check.due("d3;d2;d1;", lostAt("d3;d2;d1;", 2), 1);
        // ahead of the men as well as behind them
        Check.due("d9 ahead", Check.laid("d9;h0,0;m0,0,0,0,0,0;m9,0,0,0,0,0;").man(1, 7), 0);
        Check.due("d8 ahead", Check.laid("d8;h0,0;m0,0,0,0,0,0;m9,0,0,0,0,0;").man(1, 7), 1);
    }

    private static void faultIsTheFirst() {
        fault("x", 0);
        fault("h16,0;h16,0;", 0);
        fault("h0,0;h16,0;x", 5);
        fault("h0,0;h0,0;x;h16,0;", 10);
        // not the letter that is wrong, but the item's first
        fault("h0,0;m0,0,0,0,0,9;", 5);
        fault("h0,0;m0,0,0,0,0,0x", 5);
        // an item that is not so counts as none: the homes are four, the fifth is behind the fault
        fault("h0,0;h0,0;h0,0;h99,0;h0,0;h0,0;", 15);
        fault("h0,0;m0,0,0,0,0,0;\"", 18);
    }

    private static void faultOfNothing() {
        fault("", NONE);
        fault(" ", 0);
        fault(";", 0);
        fault("d1;", NONE);
        BootsTurnHome boots = Check.written("x");
        boots.wipe();
        Check.due("fault() of a wiped text", boots.fault(), NONE);
        // a fault goes away where the item is ended, and comes where another is begun
        int[] places = {0, 0, 0, 0, NONE, 5, 5, NONE};
        String text = "h0,0;d1;";
        for (int at = 0; at < text.length(); at++) {
            boots.write(text.charAt(at));
            Check.due("fault() behind letter " + at, boots.fault(), places[at]);
        }
    }

    private static void laidNeedsAHomeAndAMan() {
        for (String text : new String[] {"", "h0,0;", "h0,0;h1,1;h2,2;h3,3;", "o1,1;d2;", "h0,0;o1,1;d2;"}) {
            BootsTurnHome boots = Check.written(text);
            Check.due("fault() of " + text, boots.fault(), NONE);
            Check.due("lay() of " + text, boots.lay(), NO);
            Check.due("count(0)", boots.count(0), 2);
            Check.due("count(1)", boots.count(1), 5);
            Check.due("count(2)", boots.count(2), 3);
            Check.append(boots, (text.contains("h") ? "" : "h0,0;") + "m0,0,0,0,0,0;");
            Check.due("lay() of " + text + " and a home and a man", boots.lay(), 1);
        }
    }

    private static void laidNeedsNoFault() {
        fault("h0,0;m0,0,0,0,0,0; ", 18);
        fault(" h0,0;m0,0,0,0,0,0;", 0);
        fault("h0,0;m0,0,0,0,0,0;m0,0,0,0,0,5;", 18);
        Check.due("lay()", Check.written("h0,0;m0,0,0,0,0,0;").lay(), 1);
    }

    private static void laidWithTheMost() {
        String homes = "h0,0;h15,0;h0,15;h15,15;";
        String men = "m0,0,7,3,3,4;m1,1,6,3,2,3;m2,2,5,2,1,2;m3,3,4,1,0,1;m4,4,3,0,0,0;m5,5,2,1,1,4;";
        BootsTurnHome boots = Check.laid(homes + men + "o7,9;o6,8;o5,7;o4,6;o3,5;o2,4;d15;");
        int[] counts = {4, 6, 6, 0, 0, 0, 0, 0, 0, homes.length() + men.length() + 34};
        for (int what = 0; what <= 9; what++) {
            Check.due("count(" + what + ")", boots.count(what), counts[what]);
        }
        for (int i = 0; i < 6; i++) {
            Check.due("place of " + i, Check.place(boots, i), 10100 * i + 7 - i);
        }
        Check.due("man(2, 3)", boots.man(2, 3), 2);
        Check.due("man(2, 4)", boots.man(2, 4), 1);
        Check.due("man(5, 5)", boots.man(5, 5), 4);
        Check.due("home(3, 1)", boots.home(3, 1), 15);
        Check.due("told(5)", boots.told(5), 24);
    }

    private static void laidWithFewerThanBefore() {
        BootsTurnHome boots = new BootsTurnHome();
        Check.append(boots, "h7,7;m3,4,5,0,0,1;");
        Check.due("lay()", boots.lay(), 1);
        Check.due("man(1, 0)", boots.man(1, 0), BAD);
        Check.due("home(1, 0)", boots.home(1, 0), BAD);
        Check.due("told(0)", boots.told(0), NONE);
        Check.due("home(0, 0)", boots.home(0, 0), 7);
        Check.due("place of 0", Check.place(boots, 0), 30405);
        Check.due("lean(1)", boots.lean(1), 1);
        Check.due("strays(0)", boots.strays(0), 1);
    }

    private static void laidAgain() {
        BootsTurnHome boots = Check.laid("h8,0;h8,15;m8,8,4,0,0,2;m8,9,4,1,0,0;o1,1;");
        List<Integer> untouched = Shown.asked(Check.laid("h8,0;h8,15;m8,8,4,0,0,2;m8,9,4,1,0,0;o1,1;"));
        boots.order(3, 3);
        boots.tie(0, true);
        boots.swap(0, 1);
        boots.tell(2, 2);
        boots.seen(0, 2, 2);
        boots.keep();
        boots.keep();
        Check.due("lay()", boots.lay(), 2);
        Check.due("undo()", boots.undo(), NO);
        Check.due("back()", boots.back(), NO);
        Check.holds("as if laid for the first time", Shown.asked(boots).equals(untouched));
        // the halts of new boots are counted from there, too: none turns at the first
        boots.order(0, 0);
        Check.due("behind the first halt", boots.man(0, 2), 4);
        boots.order(0, 0);
        Check.due("behind the second halt", boots.man(0, 2), 5);
    }

    private static void wipeOfFullAndEmpty() {
        BootsTurnHome boots = Check.written("h".repeat(200));
        Check.due("wipe() of 200", boots.wipe(), 200);
        Check.due("wipe() of none", boots.wipe(), 0);
        Check.due("count(9)", boots.count(9), 0);
        Check.due("count(1): the land stays", boots.count(1), 5);
        Check.due("count(2): the row stays", boots.count(2), 3);
        Check.due("write(h)", boots.write('h'), 1);
        Check.due("wipe() of 1", boots.wipe(), 1);
    }
}

/** What the project's tests share: objects with a text laid, and answers compared with those that are due. */
final class Check {
    /** By how much one goes east and south at a step, by the way that one looks. */
    static final int[] EAST = {0, 1, 1, 1, 0, -1, -1, -1};
    static final int[] SOUTH = {-1, -1, 0, 1, 1, 1, 0, -1};

    private static int compared = 0;
    private static int wrong = 0;

    private Check() {
    }

    static void due(String call, long got, long want) {
        compared++;
        if (got != want) {
            wrong++;
            System.out.println(call + " answered " + got + ", due is " + want);
        }
    }

    static void holds(String what, boolean so) {
        due(what, so ? 1 : 0, 1);
    }

    static BootsTurnHome written(String text) {
        BootsTurnHome boots = new BootsTurnHome();
        append(boots, text);
        return boots;
    }

    static void append(BootsTurnHome boots, String text) {
        for (char letter : text.toCharArray()) {
            boots.write(letter);
        }
    }

    static BootsTurnHome laid(String text) {
        BootsTurnHome boots = written(text);
        holds("lay() of " + text, boots.lay() > 0);
        return boots;
    }

    /** Where a man is and how he looks, as 10000 times the column, 100 times the row, and the way. */
    static int place(BootsTurnHome boots, int i) {
        return 10000 * boots.man(i, 0) + 100 * boots.man(i, 1) + boots.man(i, 2);
    }

    static int placeBehind(BootsTurnHome boots, int k, int i) {
        return 10000 * boots.behind(k, i, 0) + 100 * boots.behind(k, i, 1) + boots.behind(k, i, 2);
    }

    /** Man 0 is brought to the cell by the row that is due, and by no order more. */
    static void brings(BootsTurnHome boots, int x, int y, int... row) {
        String to = "bring(0, " + x + ", " + y + ", ";
        due(to + "0)", boots.bring(0, x, y, 0), row.length);
        for (int k = 1; k <= 3; k++) {
            due(to + k + ")", boots.bring(0, x, y, k), k <= row.length ? row[k - 1] : BootsTurnHome.NONE);
        }
        due(to + "4)", boots.bring(0, x, y, 4), BootsTurnHome.BAD);
    }

    /** Men by the homes of their left and right boots, such as 01 22. */
    static BootsTurnHome booted(String pairs) {
        StringBuilder text = new StringBuilder("h0,0;h1,1;h2,2;h3,3;");
        for (String pair : pairs.split(" ")) {
            text.append("m8,8,0,").append(pair.charAt(0)).append(',').append(pair.charAt(1)).append(",0;");
        }
        return laid(text.toString());
    }

    static void pairs(BootsTurnHome boots, int most, int... whose) {
        due("pairs(-1)", boots.pairs(-1), most);
        for (int i = 0; i < whose.length; i++) {
            due("pairs(" + i + ")", boots.pairs(i), whose[i]);
        }
        due("pairs(" + whose.length + ")", boots.pairs(whose.length), BootsTurnHome.BAD);
    }

    static void storms(BootsTurnHome boots, int x, int y, int odds, int above, int below) {
        String what = "storms(0, " + x + ", " + y + ", " + odds + ", ";
        due(what + "0)", boots.storms(0, x, y, odds, 0), above);
        due(what + "1)", boots.storms(0, x, y, odds, 1), below);
    }

    static void finish(String test) {
        System.out.println(test + ": " + compared + " answers, " + wrong + " wrong");
        if (wrong > 0 || compared == 0) {
            System.exit(1);
        }
    }
}

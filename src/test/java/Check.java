/** What the project's tests share: objects with a text laid, and answers compared with those that are due. */
final class Check {
    private static int compared = 0;
    private static int wrong = 0;

    private Check() {
    }

    static void due(String call, long got, long want) {
        compared++;
        if (got != want) {
            wrong++;
            System.out.println(call + " answered " + got + ", due is " + want);
        }
    }

    static void holds(String what, boolean so) {
        due(what, so ? 1 : 0, 1);
    }

    static BootsTurnHome written(String text) {
        BootsTurnHome boots = new BootsTurnHome();
        append(boots, text);
        return boots;
    }

    static void append(BootsTurnHome boots, String text) {
        for (char letter : text.toCharArray()) {
            boots.write(letter);
        }
    }

    static BootsTurnHome laid(String text) {
        BootsTurnHome boots = written(text);
        holds("lay() of " + text, boots.lay() > 0);
        return boots;
    }

    /** Where a man is and how he looks, as 10000 times the column, 100 times the row, and the way. */
    static int place(BootsTurnHome boots, int i) {
        return 10000 * boots.man(i, 0) + 100 * boots.man(i, 1) + boots.man(i, 2);
    }

    static int placeBehind(BootsTurnHome boots, int k, int i) {
        return 10000 * boots.behind(k, i, 0) + 100 * boots.behind(k, i, 1) + boots.behind(k, i, 2);
    }

    static void finish(String test) {
        System.out.println(test + ": " + compared + " answers, " + wrong + " wrong");
        if (wrong > 0 || compared == 0) {
            System.exit(1);
        }
    }
}

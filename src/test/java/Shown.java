import java.util.ArrayList;
import java.util.List;

/**
 * All that an object shows, in parts, each of few enough calls that an object is never used for more
 * than 512: two objects that were used alike show the same.
 */
enum Shown {
    /** What can be asked without changing anything. */
    ASKED {
        @Override
        void of(BootsTurnHome boots, List<Integer> shown) {
            counts(boots, shown);
            int men = boots.count(1);
            int orders = boots.count(2);
            for (int i = 0; i < men; i++) {
                for (int what = 0; what <= 8; what++) {
                    shown.add(boots.man(i, what));
                }
                foreseen(boots, i, orders, shown);
            }
            for (int h = boots.count(0) - 1; h >= 0; h--) {
                shown.add(boots.home(h, 0));
                shown.add(boots.home(h, 1));
            }
            for (int k = 0; k < orders; k++) {
                shown.add(boots.told(k));
            }
            shown.add(boots.strayed());
            shown.add(boots.strays(1));
            shown.add(boots.lean(0));
            shown.add(boots.march(5, 40, 0));
        }
    },
    /** What can be undone, one after the other. */
    UNDONE {
        @Override
        void of(BootsTurnHome boots, List<Integer> shown) {
            int left = boots.count(7);
            for (int k = 0; k < left; k++) {
                shown.add(boots.undo());
                column(boots, shown);
            }
        }
    },
    /** What is kept, one after the other. */
    KEPT {
        @Override
        void of(BootsTurnHome boots, List<Integer> shown) {
            int left = boots.count(8);
            for (int k = 0; k < left; k++) {
                shown.add(boots.back());
                column(boots, shown);
                counts(boots, shown);
            }
        }
    },
    /** What the text says. */
    LAID {
        @Override
        void of(BootsTurnHome boots, List<Integer> shown) {
            shown.add(boots.fault());
            shown.add(boots.lay());
            ASKED.of(boots, shown);
        }
    };

    abstract void of(BootsTurnHome boots, List<Integer> shown);

    /** What can be asked, for an object on which nothing can be undone and nothing is kept. */
    static List<Integer> asked(BootsTurnHome boots) {
        List<Integer> shown = new ArrayList<>();
        ASKED.of(boots, shown);
        return shown;
    }

    private static void counts(BootsTurnHome boots, List<Integer> shown) {
        for (int what = 0; what <= 9; what++) {
            shown.add(boots.count(what));
        }
    }

    private static void foreseen(BootsTurnHome boots, int i, int orders, List<Integer> shown) {
        shown.add(Check.placeBehind(boots, orders, i));
        shown.add(boots.homeward(i));
        shown.add(boots.villages(i, 0));
        shown.add(boots.villages(i, 1));
        shown.add(boots.pairs(i));
    }

    /** What orders, ties and changes of boots change. */
    private static void column(BootsTurnHome boots, List<Integer> shown) {
        for (int i = boots.count(1) - 1; i >= 0; i--) {
            shown.add(Check.place(boots, i));
            shown.add(boots.man(i, 4));
            shown.add(boots.man(i, 6));
        }
        shown.add(boots.count(3));
    }
}

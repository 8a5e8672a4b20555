import java.math.BigInteger;
import java.util.ArrayDeque;
import java.util.ArrayList;
import java.util.Deque;
import java.util.List;
import java.util.regex.Matcher;
import java.util.regex.Pattern;

/**
 * The document told a second time, as plainly as can be and by other means than the class's
 * (items by patterns, all rows and all deals tried out, chances as fractions), so that the two
 * can be compared over random runs.
 */
public final class PlainModel {
    private static final int BAD = -1, NO = -2, FULL = -3, NONE = -4;
    private static final String FIRST =
        "h2,13;h12,3;m8,8,0,0,0,0;m8,9,0,0,1,0;m7,8,0,1,1,1;m9,8,0,0,0,2;m8,7,0,1,1,4;o0,3;o2,2;o1,4;";
    private static final Pattern ITEM = Pattern.compile("([hmod])(\\d{1,2}(?:,\\d{1,2})*);");
    private static final String[] COMPASS = {"N", "NE", "E", "SE", "S", "SW", "W", "NW"};

    private static final class Soldier {
        int x, y, looks, left, right, kind;
        boolean tied;

        Soldier copy() {
            Soldier other = new Soldier();
            other.x = x;
            other.y = y;
            other.looks = looks;
            other.left = left;
            other.right = right;
            other.kind = kind;
            other.tied = tied;
            return other;
        }
    }

    private static final class Troop {
        final List<Soldier> men = new ArrayList<>();
        int given;

        Troop copy() {
            Troop other = new Troop();
            for (Soldier man : men) {
                other.men.add(man.copy());
            }
            other.given = given;
            return other;
        }
    }

    private static final class Telling {
        final List<int[]> homes = new ArrayList<>();
        final Troop troop = new Troop();
        final List<int[]> row = new ArrayList<>();
        int far = 4;
        int fault = NONE;
    }

    private final StringBuilder text = new StringBuilder();
    private List<int[]> homes;
    private Troop troop;
    private List<int[]> row;
    private int far;
    private final List<int[]> sights = new ArrayList<>();
    private final Deque<Troop> past = new ArrayDeque<>();
    private final Deque<Troop> stored = new ArrayDeque<>();

    public PlainModel() {
        take(read(FIRST));
    }

    // ---- reading

    private static Telling read(String text) {
        Telling telling = new Telling();
        int place = 0;
        while (place < text.length()) {
            Matcher item = ITEM.matcher(text).region(place, text.length());
            if (!item.lookingAt() || !understood(telling, item.group(1), item.group(2).split(","))) {
                telling.fault = place;
                return telling;
            }
            place = item.end();
        }
        return telling;
    }

    private static boolean understood(Telling telling, String letter, String[] figures) {
        int[] v = new int[figures.length];
        for (int k = 0; k < v.length; k++) {
            v[k] = Integer.parseInt(figures[k]);
        }
        String sort = letter + v.length;
        if (sort.equals("h2") && v[0] <= 15 && v[1] <= 15 && telling.homes.size() < 4) {
            telling.homes.add(v);
            return true;
        }
        if (sort.equals("o2") && v[0] <= 7 && v[1] <= 9 && telling.row.size() < 6) {
            telling.row.add(v);
            return true;
        }
        if (sort.equals("d1") && v[0] >= 1 && v[0] <= 15) {
            telling.far = v[0];
            return true;
        }
        int told = telling.homes.size();
        if (sort.equals("m6") && v[0] <= 15 && v[1] <= 15 && v[2] <= 7 && v[3] < told && v[4] < told
            && v[5] <= 4 && telling.troop.men.size() < 6) {
            Soldier man = new Soldier();
            man.x = v[0];
            man.y = v[1];
            man.looks = v[2];
            man.left = v[3];
            man.right = v[4];
            man.kind = v[5];
            telling.troop.men.add(man);
            return true;
        }
        return false;
    }

    private void take(Telling telling) {
        homes = telling.homes;
        troop = telling.troop;
        row = telling.row;
        far = telling.far;
        sights.clear();
        past.clear();
        stored.clear();
    }

    // ---- moving

    private static boolean cell(int x, int y) {
        return x >= 0 && x <= 15 && y >= 0 && y <= 15;
    }

    private boolean one(int i) {
        return i >= 0 && i < troop.men.size();
    }

    private static int compass(int fromX, int fromY, int toX, int toY) {
        double columns = Math.abs(fromX - toX);
        double rows = Math.abs(fromY - toY);
        String northSouth = toY < fromY ? "N" : toY > fromY ? "S" : "";
        String eastWest = toX > fromX ? "E" : toX < fromX ? "W" : "";
        String way = rows < columns / 2 ? eastWest : columns < rows / 2 ? northSouth : northSouth + eastWest;
        for (int w = 0; w < 8; w++) {
            if (COMPASS[w].equals(way)) {
                return w;
            }
        }
        return NONE;
    }

    private static void walk(Soldier man, int r, int n) {
        for (int k = 0; k < r; k++) {
            man.looks = man.looks == 7 ? 0 : man.looks + 1;
        }
        String way = COMPASS[man.looks];
        for (int k = 0; k < n; k++) {
            int x = man.x + (way.contains("E") ? 1 : 0) - (way.contains("W") ? 1 : 0);
            int y = man.y + (way.contains("S") ? 1 : 0) - (way.contains("N") ? 1 : 0);
            if (cell(x, y)) {
                man.x = x;
                man.y = y;
            }
        }
    }

    /** One eighth at a time, looked at anew each time. */
    private static void pull(Soldier man, int kind, int homeX, int homeY, int halt) {
        int goal = compass(man.x, man.y, homeX, homeY);
        if (goal == NONE) {
            return;
        }
        int toRight = Math.floorMod(goal - man.looks, 8);
        boolean rightIsShorter = toRight <= 4;
        if (kind == 4) {
            if (toRight == 0) {
                man.looks = Math.floorMod(man.looks - 1, 8);
            } else if (toRight != 4) {
                man.looks = Math.floorMod(man.looks + (rightIsShorter ? -1 : 1), 8);
            }
            return;
        }
        int eighths = kind == 0 ? 1 : kind == 1 ? 2 : kind == 2 && halt % 2 == 0 ? 1 : 0;
        for (int k = 0; k < eighths && man.looks != goal; k++) {
            man.looks = Math.floorMod(man.looks + (rightIsShorter ? 1 : -1), 8);
        }
    }

    private void rest(Soldier man, int halt) {
        if (!man.tied && man.left == man.right) {
            int[] home = homes.get(man.left);
            pull(man, man.kind, home[0], home[1], halt);
        }
    }

    private void command(Troop who, int r, int n) {
        for (Soldier man : who.men) {
            walk(man, r, n);
        }
        who.given++;
        for (Soldier man : who.men) {
            rest(man, who.given);
        }
    }

    private boolean stray(Troop who, Soldier man) {
        Soldier first = who.men.get(0);
        return Math.abs(man.x - first.x) > far || Math.abs(man.y - first.y) > far;
    }

    private int strayCount(Troop who) {
        int n = 0;
        for (Soldier man : who.men) {
            if (stray(who, man)) {
                n++;
            }
        }
        return n;
    }

    private boolean arrived(Soldier man) {
        return man.x == homes.get(man.left)[0] && man.y == homes.get(man.left)[1];
    }

    private void remember() {
        past.addLast(troop.copy());
        if (past.size() > 8) {
            past.removeFirst();
        }
    }

    private static int shown(Soldier man, int what) {
        return what == 0 ? man.x : what == 1 ? man.y : man.looks;
    }

    // ---- the face

    public int write(int letter) {
        if (letter < 32 || letter > 126) {
            return BAD;
        }
        return text.length() == 200 ? FULL : text.append((char) letter).length();
    }

    public int wipe() {
        int was = text.length();
        text.setLength(0);
        return was;
    }

    public int fault() {
        return read(text.toString()).fault;
    }

    public int lay() {
        Telling telling = read(text.toString());
        if (telling.fault != NONE || telling.homes.isEmpty() || telling.troop.men.isEmpty()) {
            return NO;
        }
        take(telling);
        return troop.men.size();
    }

    public int man(int i, int what) {
        if (!one(i) || what < 0 || what > 8) {
            return BAD;
        }
        Soldier man = troop.men.get(i);
        int[] all = {man.x, man.y, man.looks, man.left, man.right, man.kind, man.tied ? 1 : 0,
            stray(troop, man) ? 1 : 0, arrived(man) ? 1 : 0};
        return all[what];
    }

    public int home(int h, int what) {
        return h < 0 || h >= homes.size() || what < 0 || what > 1 ? BAD : homes.get(h)[what];
    }

    public int told(int k) {
        return k < 0 ? BAD : k >= row.size() ? NONE : 10 * row.get(k)[0] + row.get(k)[1];
    }

    public int toward(int x, int y, int u, int v) {
        return cell(x, y) && cell(u, v) ? compass(x, y, u, v) : BAD;
    }

    public int order(int r, int n) {
        if (r < 0 || r > 7 || n < 0 || n > 9) {
            return BAD;
        }
        remember();
        command(troop, r, n);
        return strayCount(troop);
    }

    public int tie(int i, boolean tied) {
        if (!one(i)) {
            return BAD;
        }
        if (troop.men.get(i).tied == tied) {
            return NO;
        }
        remember();
        troop.men.get(i).tied = tied;
        return count(4);
    }

    public int swap(int i, int j) {
        if (!one(i) || !one(j) || i == j) {
            return BAD;
        }
        remember();
        Soldier first = troop.men.get(i);
        Soldier second = troop.men.get(j);
        int boot = first.right;
        first.right = second.right;
        second.right = boot;
        return first.right;
    }

    public int undo() {
        if (past.isEmpty()) {
            return NO;
        }
        troop = past.removeLast();
        return past.size();
    }

    public int tell(int r, int n) {
        if (r < 0 || r > 7 || n < 0 || n > 9) {
            return BAD;
        }
        if (row.size() == 6) {
            return FULL;
        }
        row.add(new int[] {r, n});
        return row.size();
    }

    public int noRow() {
        int was = row.size();
        row.clear();
        sights.clear();
        return was;
    }

    public int behind(int k, int i, int what) {
        if (k < 0 || k > row.size() || !one(i) || what < 0 || what > 2) {
            return BAD;
        }
        Troop later = troop.copy();
        for (int[] o : row.subList(0, k)) {
            command(later, o[0], o[1]);
        }
        return shown(later.men.get(i), what);
    }

    public int strayed() {
        Troop later = troop.copy();
        for (int k = 1; k <= row.size(); k++) {
            command(later, row.get(k - 1)[0], row.get(k - 1)[1]);
            if (strayCount(later) > 0) {
                return k;
            }
        }
        return NONE;
    }

    public int bring(int i, int x, int y, int k) {
        if (!one(i) || !cell(x, y) || k < 0 || k > 3) {
            return BAD;
        }
        int rows = 1;
        for (int orders = 0; orders <= 3; orders++) {
            for (int number = 0; number < rows; number++) {
                int[] tried = rowOfNumber(number, orders);
                Soldier man = troop.men.get(i).copy();
                for (int o = 0; o < orders; o++) {
                    walk(man, tried[o] / 10, tried[o] % 10);
                    rest(man, troop.given + o + 1);
                }
                if (man.x == x && man.y == y) {
                    return k == 0 ? orders : k <= orders ? tried[k - 1] : NONE;
                }
            }
            rows *= 24;
        }
        return NONE;
    }

    /** The rows of so many orders in their order: figures to the base 24, the first order's the highest. */
    private static int[] rowOfNumber(int number, int orders) {
        int[] tried = new int[orders];
        int rest = number;
        for (int o = orders - 1; o >= 0; o--) {
            tried[o] = 10 * (rest % 24 / 3) + rest % 3 + 1;
            rest /= 24;
        }
        return tried;
    }

    public int pairs(int i) {
        if (i != -1 && !one(i)) {
            return BAD;
        }
        int men = troop.men.size();
        int[] best = null;
        int most = -1;
        int ways = (int) Math.pow(men, men);
        for (int number = 0; number < ways; number++) {
            int[] gets = new int[men];
            int rest = number;
            int used = 0;
            for (int m = men - 1; m >= 0; m--) {
                gets[m] = rest % men;
                rest /= men;
                used |= 1 << gets[m];
            }
            if (Integer.bitCount(used) == men) {
                int mixed = 0;
                for (int m = 0; m < men; m++) {
                    mixed += troop.men.get(m).left != troop.men.get(gets[m]).right ? 1 : 0;
                }
                if (mixed > most) {
                    most = mixed;
                    best = gets;
                }
            }
        }
        return i == -1 ? most : best[i];
    }

    public int homeward(int i) {
        if (!one(i)) {
            return BAD;
        }
        Troop later = troop.copy();
        int gone = 0;
        while (!arrived(later.men.get(i))) {
            if (gone == 60) {
                return NONE;
            }
            command(later, 0, 1);
            gone++;
        }
        return gone;
    }

    public int seen(int i, int t, int faced) {
        if (!one(i) || t < 1 || t > row.size() || faced < 0 || faced > 7) {
            return BAD;
        }
        if (sights.size() == 6) {
            return FULL;
        }
        sights.add(new int[] {i, t, faced});
        return sights.size();
    }

    public int forget() {
        int was = sights.size();
        sights.clear();
        return was;
    }

    public int villages(int i, int what) {
        if (!one(i) || what < 0 || what > 1) {
            return BAD;
        }
        List<Integer> possible = new ArrayList<>();
        for (int y = 0; y < 16; y++) {
            for (int x = 0; x < 16; x++) {
                boolean so = true;
                for (int[] sight : sights) {
                    so = so && (sight[0] != i || looksBehind(i, sight[1], x, y) == sight[2]);
                }
                if (so) {
                    possible.add(16 * y + x);
                }
            }
        }
        return what == 0 ? possible.size() : possible.isEmpty() ? NONE : possible.get(0);
    }

    private int looksBehind(int i, int t, int x, int y) {
        Soldier man = troop.men.get(i).copy();
        for (int[] o : row.subList(0, t)) {
            walk(man, o[0], o[1]);
            pull(man, 0, x, y, 0);
        }
        return man.looks;
    }

    public int strays(int what) {
        if (what < 0 || what > 1) {
            return BAD;
        }
        int bits = 0;
        for (int i = 0; i < troop.men.size(); i++) {
            Soldier later = troop.men.get(i).copy();
            rest(later, troop.given + 1);
            bits += later.looks != troop.men.get(i).looks ? 1 << i : 0;
        }
        return what == 1 ? bits : Integer.bitCount(bits);
    }

    public int lean(int what) {
        if (what < 0 || what > 1) {
            return BAD;
        }
        int[] looking = new int[8];
        for (Soldier man : troop.men) {
            looking[man.looks]++;
        }
        int way = 0;
        for (int w = 7; w >= 0; w--) {
            way = looking[w] >= looking[way] ? w : way;
        }
        return what == 0 ? way : looking[way];
    }

    public int storms(int i, int x, int y, int odds, int part) {
        if (!one(i) || !cell(x, y) || odds < 0 || odds > 10 || part < 0 || part > 1) {
            return BAD;
        }
        BigInteger above = weight(troop.men.get(i), 0, x, y, odds);
        BigInteger below = BigInteger.TEN.pow(row.size());
        BigInteger shared = above.gcd(below);
        return (part == 0 ? above : below).divide(shared).intValueExact();
    }

    private BigInteger weight(Soldier man, int o, int x, int y, int odds) {
        if (o == row.size()) {
            return man.x == x && man.y == y ? BigInteger.ONE : BigInteger.ZERO;
        }
        Soldier calm = man.copy();
        walk(calm, row.get(o)[0], row.get(o)[1]);
        rest(calm, troop.given + o + 1);
        Soldier struck = man.copy();
        walk(struck, row.get(o)[0], Math.max(0, row.get(o)[1] - 1));
        rest(struck, troop.given + o + 1);
        return weight(calm, o + 1, x, y, odds).multiply(BigInteger.valueOf(10 - odds))
            .add(weight(struck, o + 1, x, y, odds).multiply(BigInteger.valueOf(odds)));
    }

    public int march(int z, int n, int what) {
        if (z < 0 || z > 9999 || n < 1 || n > 40 || what < 0 || what > 1) {
            return BAD;
        }
        Troop later = troop.copy();
        int often = 0;
        for (int k = 0; k < n; k++) {
            BigInteger x = BigInteger.valueOf(7919L * z + 6151L * k + 1);
            int draw = x.multiply(x).mod(BigInteger.valueOf(65521)).intValue() / 8;
            command(later, draw % 8, draw / 8 % 4);
            boolean anybody = false;
            for (Soldier man : later.men) {
                anybody = anybody || arrived(man);
            }
            often += anybody ? 1 : 0;
        }
        return what == 0 ? strayCount(later) : often;
    }

    public int keep() {
        if (stored.size() == 2) {
            return FULL;
        }
        stored.addLast(troop.copy());
        return stored.size();
    }

    public int back() {
        if (stored.isEmpty()) {
            return NO;
        }
        troop = stored.removeLast();
        past.clear();
        return stored.size();
    }

    public int count(int what) {
        int tied = 0;
        for (Soldier man : troop.men) {
            tied += man.tied ? 1 : 0;
        }
        int[] all = {homes.size(), troop.men.size(), row.size(), troop.given, tied, strayCount(troop),
            sights.size(), past.size(), stored.size(), text.length()};
        return what < 0 || what > 9 ? BAD : all[what];
    }
}

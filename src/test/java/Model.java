import java.util.ArrayDeque;
import java.util.ArrayList;
import java.util.Arrays;
import java.util.Comparator;
import java.util.Deque;
import java.util.List;
import java.util.TreeMap;
import java.util.TreeSet;
import java.util.regex.Matcher;
import java.util.regex.Pattern;

/**
 * The document once more, written as plainly as the whole Java library lets it be, and by other
 * means than the program: what can stand in a text is told by patterns, rules are reckoned from
 * their signs, sets are tried in the order of their answers.
 */
final class Model {
    /** What undo() brings back. */
    static final class State {
        int gx;
        int gy;
        int hx = 9;
        int hy = 9;
        int powder = 20;
        int clashes;
        int mute;
        int day;
        List<int[]> places = new ArrayList<>();
        List<Integer> watches = new ArrayList<>();
        List<Integer> lengths = new ArrayList<>();

        State copy() {
            State s = new State();
            s.gx = gx;
            s.gy = gy;
            s.hx = hx;
            s.hy = hy;
            s.powder = powder;
            s.clashes = clashes;
            s.mute = mute;
            s.day = day;
            for (int[] place : places) {
                s.places.add(place.clone());
            }
            s.watches.addAll(watches);
            s.lengths.addAll(lengths);
            return s;
        }
    }

    private static final String NEVER = "[^\\x{0}-\\x{ffff}]";

    State now = new State();
    String text = "";
    String winds = "0";
    String damps = "0";
    String rule = "d*2-w/2";
    List<Integer> homes = new ArrayList<>();
    List<Integer> lanes = new ArrayList<>();
    Deque<State> past = new ArrayDeque<>();
    State[] kept = new State[3];
    List<int[]> reports = new ArrayList<>();
    long[] row = {};

    // ---- texts

    int sign(int v) {
        if (text.length() > 76) {
            return -1;
        }
        for (int i = 3; i >= 0; i--) {
            text += (char) (v >> 8 * i & 0xFF);
        }
        return text.length();
    }

    boolean end(int n) {
        if (n < 0 || n > text.length()) {
            return false;
        }
        text = text.substring(0, n);
        return true;
    }

    /** -1: the text is of the pattern and not too long, else the first sign that can't stand. */
    static int misfit(String pattern, int most, String text) {
        Pattern p = Pattern.compile(pattern, Pattern.DOTALL);
        for (int n = 1; n <= Math.min(most, text.length()); n++) {
            Matcher m = p.matcher(text.substring(0, n));
            if (!m.matches() && !m.hitEnd()) {
                return n - 1;
            }
        }
        if (text.length() > most) {
            return most;
        }
        return p.matcher(text).matches() ? -1 : text.length();
    }

    private static String lines(String line, int room) {
        if (room == 0) {
            return NEVER;
        }
        return line + "(?:;" + line + "){0," + (room - 1) + "}(?:;" + NEVER + ")?";
    }

    private String take() {
        String t = text;
        text = "";
        return t;
    }

    int houses() {
        String t = take();
        if (t.isEmpty()) {
            return 0;
        }
        // Behind the last LINE for which there is room a ; can stand, but nothing behind it.
        int room = 8 - now.places.size();
        int wrong = misfit(lines("[0-9][0-9]", room), 23, t);
        if (wrong >= 0) {
            return -1 - wrong;
        }
        for (String line : t.split(";")) {
            now.places.add(new int[] {line.charAt(0) - '0', line.charAt(1) - '0'});
            now.watches.add(0);
        }
        came();
        return t.split(";").length;
    }

    int deeds() {
        String t = take();
        if (t.isEmpty()) {
            return 0;
        }
        String house = now.places.isEmpty() ? NEVER : "[0-" + (now.places.size() - 1) + "]";
        String line = house + "[1-9](?:ab?c?d?|bc?d?|cd?|d)";
        int wrong = misfit(lines(line, 8 - homes.size()), 55, t);
        if (wrong >= 0) {
            return -1 - wrong;
        }
        for (String l : t.split(";")) {
            homes.add(l.charAt(0) - '0');
            now.lengths.add(l.charAt(1) - '0');
            int bits = 0;
            for (char c : l.substring(2).toCharArray()) {
                bits += 1 << c - 'a';
            }
            lanes.add(bits);
        }
        came();
        return t.split(";").length;
    }

    private void came() {
        past.clear();
        Arrays.fill(kept, null);
    }

    int winds() {
        String t = take();
        int wrong = misfit("[0-9]+", 20, t);
        if (wrong >= 0) {
            return -1 - wrong;
        }
        winds = t;
        return t.length();
    }

    int damps() {
        String t = take();
        int wrong = misfit("[0-9]+", 20, t);
        if (wrong >= 0) {
            return -1 - wrong;
        }
        damps = t;
        return t.length();
    }

    private static final String RULE_PATTERN = rulePattern();

    private static String rulePattern() {
        String thing = "[0-9]{1,3}|[dwmxyne]";
        String inner = null;
        for (int depth = 4; depth >= 0; depth--) {
            String unary = "-*+(?:" + thing + (inner == null ? "" : "|\\(" + inner + "\\)") + ")";
            String sum = unary + "(?:[-+*/]" + unary + ")*";
            inner = sum + "(?:[<>=]" + sum + ")?";
        }
        return inner;
    }

    static int ruleMisfit(String t) {
        return t.isEmpty() ? -1 : misfit(RULE_PATTERN, 40, t);
    }

    int rule() {
        String t = take();
        int wrong = ruleMisfit(t);
        if (wrong < 0) {
            rule = t.isEmpty() ? "d*2-w/2" : t;
        }
        return -1 - wrong;
    }

    // ---- rules are reckoned by looking for the sign that binds least, from the right

    private static int reckon(String t, int[] things) {
        for (String signs : new String[] {"<>=", "+-", "*/"}) {
            int depth = 0;
            for (int p = t.length() - 1; p > 0; p--) {
                char c = t.charAt(p);
                depth += c == ')' ? 1 : c == '(' ? -1 : 0;
                boolean isBetween = "+-*/<>=(".indexOf(t.charAt(p - 1)) < 0;
                if (depth == 0 && signs.indexOf(c) >= 0 && isBetween) {
                    int a = reckon(t.substring(0, p), things);
                    int b = reckon(t.substring(p + 1), things);
                    return c == '<' ? (a < b ? 1 : 0) : c == '>' ? (a > b ? 1 : 0) : c == '=' ? (a == b ? 1 : 0)
                        : c == '+' ? a + b : c == '-' ? a - b : c == '*' ? a * b : b == 0 ? 0 : a / b;
                }
            }
        }
        char first = t.charAt(0);
        if (first == '-') {
            return -reckon(t.substring(1), things);
        }
        if (first == '(') {
            return reckon(t.substring(1, t.length() - 1), things);
        }
        int name = "dwmxyne".indexOf(first);
        return name >= 0 ? things[name] : Integer.parseInt(t);
    }

    private static int far(int ax, int ay, int bx, int by) {
        return Math.abs(ax - bx) + Math.abs(ay - by);
    }

    int wind(int day) {
        return winds.charAt(day % winds.length()) - '0';
    }

    int damp(int day) {
        return damps.charAt(day % damps.length()) - '0';
    }

    private int delay(String by, int house, int d, int w, int m, int day, int e) {
        int[] place = now.places.get(house);
        int v = reckon(by, new int[] {d, w, m, place[0], place[1], day % 7, e});
        return v < 0 ? 0 : v > 99 ? 99 : v;
    }

    private int hears(String by, int house, int gx, int gy, int day) {
        int[] place = now.places.get(house);
        int d = far(gx, gy, place[0], place[1]);
        return damp(day) + delay(by, house, d, wind(day), damp(day), day, 0);
    }

    private int hears(int house) {
        return hears(rule, house, now.gx, now.gy, now.day);
    }

    private int echoes(int house) {
        int[] place = now.places.get(house);
        int d = far(now.gx, now.gy, now.hx, now.hy) + far(now.hx, now.hy, place[0], place[1]);
        return damp(now.day) + delay(rule, house, d, wind(now.day), damp(now.day), now.day, 1);
    }

    private int[] begins(String by, int gx, int gy, int day) {
        int[] begins = new int[homes.size()];
        for (int i = 0; i < begins.length; i++) {
            begins[i] = hears(by, homes.get(i), gx, gy, day);
        }
        return begins;
    }

    private int[] begins() {
        return begins(rule, now.gx, now.gy, now.day);
    }

    private boolean clash(int[] begins, int a, int b) {
        if ((lanes.get(a) & lanes.get(b)) == 0) {
            return false;
        }
        for (int minute = 0; minute < 130; minute++) {
            if (isOn(begins, a, minute) && isOn(begins, b, minute)) {
                return true;
            }
        }
        return false;
    }

    private boolean isOn(int[] begins, int deed, int minute) {
        return minute >= begins[deed] && minute <= begins[deed] + now.lengths.get(deed) - 1;
    }

    private List<int[]> pairs(int[] begins) {
        List<int[]> pairs = new ArrayList<>();
        for (int a = 0; a < begins.length; a++) {
            for (int b = a + 1; b < begins.length; b++) {
                if (clash(begins, a, b)) {
                    pairs.add(new int[] {a, b});
                }
            }
        }
        return pairs;
    }

    private int pairsOn(int day) {
        return pairs(begins(rule, now.gx, now.gy, day)).size();
    }

    // ---- of houses, deeds, sheets; null: it throws

    Integer house(int house, int what) {
        if (house < 0 || house >= now.places.size() || what < 0 || what > 5) {
            return null;
        }
        int bits = 0;
        for (int i = 0; i < homes.size(); i++) {
            bits += homes.get(i) == house ? 1 << i : 0;
        }
        return new int[] {now.places.get(house)[0], now.places.get(house)[1], now.watches.get(house),
            hears(house), echoes(house), bits}[what];
    }

    Integer deed(int deed, int what) {
        if (deed < 0 || deed >= homes.size() || what < 0 || what > 4) {
            return null;
        }
        int[] begins = begins();
        int bits = 0;
        for (int[] pair : pairs(begins)) {
            bits += pair[0] == deed ? 1 << pair[1] : pair[1] == deed ? 1 << pair[0] : 0;
        }
        return new int[] {homes.get(deed), now.lengths.get(deed), lanes.get(deed), begins[deed], bits}[what];
    }

    int sheet(int kind, int n, int f, int step) {
        if (kind < 0 || kind > 3 || n > 8) {
            return -1;
        }
        if (kind < 3 && n < 0) {
            return -2;
        }
        int sum = 0;
        int entry = f;
        for (int i = 0; i < homes.size(); i++) {
            int v = kind == 0 ? (byte) entry : kind == 1 ? (short) entry : entry;
            v = v < 1 ? 1 : v > 9 ? 9 : v;
            now.lengths.set(i, kind < 3 && i < n ? v : 1);
            sum += now.lengths.get(i);
            entry += step;
        }
        return kind == 3 ? -3 : sum;
    }

    // ---- acts

    private interface Act {
        int make();
    }

    private int act(Act act) {
        State before = now.copy();
        int answer = act.make();
        if (answer >= 0) {
            remember(before);
        }
        return answer;
    }

    private void remember(State before) {
        past.addLast(before);
        if (past.size() > 15) {
            past.removeFirst();
        }
    }

    /** Pairs that clashed and 0, or 0 and 1 for a mute one. */
    private int[] oneDay() {
        int[] told = {0, 1};
        if (now.powder > 0) {
            now.powder--;
            told = new int[] {pairsOn(now.day), 0};
            now.clashes = Math.min(9999, now.clashes + told[0]);
            for (int h = 0; h < now.places.size(); h++) {
                now.watches.set(h, hears(h));
            }
        } else {
            now.mute = Math.min(999, now.mute + 1);
        }
        now.day++;
        return told;
    }

    private int doDays(int n) {
        if (n < 0 || n > 60) {
            return -1;
        }
        long[] told = {0, 0};
        for (int i = 0; i < n; i++) {
            int[] one = oneDay();
            told[0] += one[0];
            told[1] += one[1];
        }
        row = told;
        return now.powder;
    }

    private int doBuys(int n) {
        if (n < 1 || n > 99) {
            return -1;
        }
        if (now.powder + n > 99) {
            return -3;
        }
        return now.powder += n;
    }

    private static boolean isPlace(int x, int y) {
        return Math.min(x, y) >= 0 && Math.max(x, y) <= 9;
    }

    private int doHauls(int x, int y) {
        if (!isPlace(x, y)) {
            return -1;
        }
        int far = far(x, y, now.gx, now.gy);
        now.gx = x;
        now.gy = y;
        return far == 0 ? -2 : far;
    }

    private int doMoves(int house, int x, int y) {
        if (!isPlace(x, y) || house < 0 || house >= now.places.size()) {
            return -1;
        }
        int[] old = now.places.set(house, new int[] {x, y});
        int far = far(x, y, old[0], old[1]);
        return far == 0 ? -2 : far;
    }

    private int doTakes(int deed, int v) {
        if (deed < 0 || deed >= homes.size() || v < 1 || v > 9) {
            return -1;
        }
        int old = now.lengths.set(deed, v);
        return old == v ? -2 : old;
    }

    private int doHill(int x, int y) {
        if (!isPlace(x, y)) {
            return -1;
        }
        int far = far(x, y, now.hx, now.hy);
        now.hx = x;
        now.hy = y;
        return far;
    }

    int days(int n) {
        return act(() -> doDays(n));
    }

    int buys(int n) {
        return act(() -> doBuys(n));
    }

    int hauls(int x, int y) {
        return act(() -> doHauls(x, y));
    }

    int moves(int house, int x, int y) {
        return act(() -> doMoves(house, x, y));
    }

    int takes(int deed, int v) {
        return act(() -> doTakes(deed, v));
    }

    int hill(int x, int y) {
        return act(() -> doHill(x, y));
    }

    int week() {
        String t = take();
        String one = "n[0-9]|b[1-9]|g[0-9]{2}|m[0-9]{3}|l[0-9][1-9]";
        int wrong = t.isEmpty() ? -1 : misfit("(?:" + one + ")+", 60, t);
        if (wrong >= 0) {
            return -1 - wrong;
        }
        State before = now.copy();
        int done = 0;
        int refused = 0;
        Matcher m = Pattern.compile(one).matcher(t);
        while (refused == 0 && m.find()) {
            int[] v = m.group().substring(1).chars().map(c -> c - '0').toArray();
            char act = m.group().charAt(0);
            int answer = act == 'n' ? doDays(v[0]) : act == 'b' ? doBuys(v[0]) : act == 'g' ? doHauls(v[0], v[1])
                : act == 'm' ? doMoves(v[0], v[1], v[2]) : doTakes(v[0], v[1]);
            refused = answer < 0 ? 1 : 0;
            done += 1 - refused;
        }
        if (done > 0) {
            remember(before);
        }
        row = new long[] {refused, now.clashes};
        return done;
    }

    int undo() {
        if (past.isEmpty()) {
            return -1;
        }
        now = past.removeLast();
        return past.size();
    }

    // ---- questions

    int order() {
        int[] begins = begins();
        row = byBegin(begins).stream().mapToLong(i -> i).toArray();
        return begins.length;
    }

    private List<Integer> byBegin(int[] begins) {
        List<Integer> list = new ArrayList<>();
        for (int i = 0; i < begins.length; i++) {
            list.add(i);
        }
        list.sort(Comparator.comparing((Integer i) -> begins[i]).thenComparing(i -> i));
        return list;
    }

    int clashes() {
        List<int[]> pairs = pairs(begins());
        row = pairs.isEmpty() ? new long[0] : new long[] {pairs.get(0)[0], pairs.get(0)[1]};
        return pairs.size();
    }

    int span() {
        if (homes.isEmpty()) {
            return -2;
        }
        int[] begins = begins();
        TreeSet<Integer> on = new TreeSet<>();
        for (int i = 0; i < begins.length; i++) {
            for (int minute = 0; minute < 130; minute++) {
                if (isOn(begins, i, minute)) {
                    on.add(minute);
                }
            }
        }
        row = new long[] {on.first(), on.last() + 1, on.last() + 1 - on.first() - on.size()};
        return on.size();
    }

    int lane(int lane) {
        if (lane < 0 || lane > 3) {
            return -1;
        }
        int[] begins = begins();
        TreeMap<Integer, Integer> users = new TreeMap<>();
        for (int i = 0; i < begins.length; i++) {
            for (int minute = 0; minute < 130; minute++) {
                if (isOn(begins, i, minute) && (lanes.get(i) >> lane & 1) == 1) {
                    users.merge(minute, 1, Integer::sum);
                }
            }
        }
        int most = users.values().stream().mapToInt(i -> i).max().orElse(0);
        int first = users.keySet().stream().filter(k -> users.get(k) == most).findFirst().orElse(-1);
        row = new long[] {most, first};
        return users.size();
    }

    int ahead(int n) {
        if (n < 0 || n > 99) {
            return -1;
        }
        row = new long[] {damp(now.day + n), wind(now.day + n)};
        return pairsOn(now.day + n);
    }

    int quiet() {
        List<Integer> found = new ArrayList<>();
        for (int n = 0; n <= 99; n++) {
            if (pairsOn(now.day + n) == 0) {
                found.add(n);
            }
        }
        if (found.isEmpty()) {
            return -2;
        }
        row = new long[] {found.size()};
        return found.get(0);
    }

    int lasts() {
        int sum = 0;
        for (int n = 0; n < now.powder; n++) {
            sum += pairsOn(now.day + n);
        }
        row = new long[] {sum};
        return now.powder;
    }

    /** All sets of so many things, the fewest first, then the least bits. */
    private static List<Integer> sets(int n) {
        List<Integer> sets = new ArrayList<>();
        for (int set = 0; set < 1 << n; set++) {
            sets.add(set);
        }
        sets.sort(Comparator.comparing((Integer s) -> Integer.bitCount(s)).thenComparing(s -> s));
        return sets;
    }

    private static boolean isIn(int i, int set) {
        return (set >> i & 1) == 1;
    }

    private boolean clashes(List<int[]> pairs, int set) {
        return pairs.stream().anyMatch(p -> isIn(p[0], set) && isIn(p[1], set));
    }

    int fewest() {
        List<int[]> pairs = pairs(begins());
        for (int off : sets(homes.size())) {
            if (!clashes(pairs, ~off)) {
                row = new long[] {off};
                return Integer.bitCount(off);
            }
        }
        throw new AssertionError();
    }

    private int lengths(int set) {
        int sum = 0;
        for (int i = 0; i < homes.size(); i++) {
            sum += isIn(i, set) ? now.lengths.get(i) : 0;
        }
        return sum;
    }

    int longest() {
        List<int[]> pairs = pairs(begins());
        List<Integer> sets = sets(homes.size());
        sets.removeIf(s -> clashes(pairs, s));
        sets.sort(Comparator.comparing((Integer s) -> -lengths(s)).thenComparing(s -> -Integer.bitCount(s))
            .thenComparing(s -> s));
        row = new long[] {sets.get(0)};
        return lengths(sets.get(0));
    }

    int best() {
        int least = 1000;
        for (int x = 9; x >= 0; x--) {
            for (int y = 9; y >= 0; y--) {
                int pairs = pairs(begins(rule, x, y, now.day)).size();
                if (pairs <= least) {
                    least = pairs;
                    row = new long[] {x, y, pairsOn(now.day)};
                }
            }
        }
        return least;
    }

    int middle() {
        if (now.places.isEmpty()) {
            return -2;
        }
        int least = 1000;
        for (int x = 9; x >= 0; x--) {
            for (int y = 9; y >= 0; y--) {
                int last = 0;
                for (int h = 0; h < now.places.size(); h++) {
                    last = Math.max(last, hears(rule, h, x, y, now.day));
                }
                if (last <= least) {
                    least = last;
                    row = new long[] {x, y};
                }
            }
        }
        return least;
    }

    int holds(int deed) {
        if (deed < 0 || deed >= homes.size()) {
            return -1;
        }
        for (int held = 0; held <= 9; held++) {
            int[] begins = begins();
            begins[deed] += held;
            if (pairs(begins).stream().noneMatch(p -> p[0] == deed || p[1] == deed)) {
                row = new long[] {begins[deed]};
                return held;
            }
        }
        return -2;
    }

    int hands() {
        int[] begins = begins();
        row = new long[begins.length];
        List<List<Integer>> hands = new ArrayList<>();
        for (int deed : byBegin(begins)) {
            int hand = 0;
            while (hand < hands.size() && !isFree(begins, hands.get(hand), deed)) {
                hand++;
            }
            if (hand == hands.size()) {
                hands.add(new ArrayList<>());
            }
            hands.get(hand).add(deed);
            row[deed] = hand;
        }
        return hands.size();
    }

    private boolean isFree(int[] begins, List<Integer> hand, int deed) {
        for (int other : hand) {
            for (int minute = 0; minute < 130; minute++) {
                if (isOn(begins, other, minute) && isOn(begins, deed, minute)) {
                    return false;
                }
            }
        }
        return true;
    }

    int echo(int house) {
        if (house < 0 || house >= now.places.size()) {
            return -1;
        }
        int bits = 0;
        for (int h = 0; h < now.places.size(); h++) {
            bits += hears(h) > echoes(house) ? 1 << h : 0;
        }
        row = new long[] {bits};
        return 100 + echoes(house) - hears(house);
    }

    int together() {
        TreeMap<Integer, List<Integer>> by = new TreeMap<>();
        for (int h = 0; h < now.places.size(); h++) {
            by.computeIfAbsent(hears(h), k -> new ArrayList<>()).add(h);
        }
        int bits = 0;
        for (List<Integer> houses : by.values()) {
            for (int h : houses) {
                bits += houses.size() > 1 ? 1 << h : 0;
            }
        }
        row = new long[] {by.size()};
        return bits;
    }

    int heard(int house, int v) {
        if (house < 0 || house >= now.places.size() || v < 0 || v > 199 || reports.size() == 10) {
            return -1;
        }
        reports.add(new int[] {house, v});
        return reports.size();
    }

    int forget() {
        int n = reports.size();
        reports.clear();
        return n;
    }

    private int wouldHear(int house, int damp, int wind) {
        int[] place = now.places.get(house);
        return damp + delay(rule, house, far(now.gx, now.gy, place[0], place[1]), wind, damp, now.day, 0);
    }

    private List<int[]> fitting() {
        List<int[]> list = new ArrayList<>();
        for (int damp = 0; damp <= 9; damp++) {
            for (int wind = 0; wind <= 9; wind++) {
                int d = damp;
                int w = wind;
                if (reports.stream().allMatch(r -> wouldHear(r[0], d, w) == r[1])) {
                    list.add(new int[] {damp, wind});
                }
            }
        }
        return list;
    }

    int fits() {
        List<int[]> list = fitting();
        row = list.isEmpty() ? new long[0] : new long[] {list.get(0)[0], list.get(0)[1]};
        return list.size();
    }

    int asks() {
        List<int[]> list = fitting();
        if (list.isEmpty() || now.places.isEmpty()) {
            return -2;
        }
        int whom = -1;
        int fewest = 1000;
        for (int h = 0; h < now.places.size(); h++) {
            TreeMap<Integer, Integer> left = new TreeMap<>();
            for (int[] pair : list) {
                left.merge(wouldHear(h, pair[0], pair[1]), 1, Integer::sum);
            }
            int most = left.values().stream().mapToInt(i -> i).max().orElse(0);
            if (most < fewest) {
                fewest = most;
                whom = h;
            }
        }
        row = new long[] {fewest};
        return whom;
    }

    int menders(int v) {
        if (v < 0 || v > 18) {
            return -1;
        }
        int n = now.places.size();
        for (int set : sets(n)) {
            int right = 0;
            for (int a = 0; a < n; a++) {
                for (int b = 0; b < n; b++) {
                    int[] p = now.places.get(a);
                    int[] q = now.places.get(b);
                    if (isIn(b, set) && far(p[0], p[1], q[0], q[1]) <= v) {
                        right |= 1 << a;
                    }
                }
            }
            if (Integer.bitCount(right) == n) {
                row = new long[] {set};
                return Integer.bitCount(set);
            }
        }
        throw new AssertionError();
    }

    int apart() {
        int n = now.places.size();
        if (n < 2) {
            return -2;
        }
        int most = 0;
        for (int a = n - 1; a >= 0; a--) {
            for (int b = n - 1; b > a; b--) {
                int by = Math.abs(now.watches.get(a) - now.watches.get(b));
                if (by >= most) {
                    most = by;
                    row = new long[] {a, b};
                }
            }
        }
        return most;
    }

    int misfires(int n, int k, int p) {
        if (n < 1 || n > 15 || k < 1 || k > 15 || p < 0 || p > 10) {
            return -1;
        }
        long upper = 0;
        long lower = 1;
        for (int i = 0; i < n; i++) {
            lower *= 10;
        }
        for (int shots = 0; shots < 1 << n; shots++) {
            String s = Integer.toBinaryString(shots | 1 << n).substring(1);
            if (!s.contains("1".repeat(k))) {
                long likely = 1;
                for (char c : s.toCharArray()) {
                    likely *= c == '1' ? p : 10 - p;
                }
                upper += likely;
            }
        }
        long by = java.math.BigInteger.valueOf(upper).gcd(java.math.BigInteger.valueOf(lower)).longValue();
        row = new long[] {upper / by, lower / by};
        return 0;
    }

    private final int[][] wins = new int[21][21];

    /** 1 or -1 for him who fires next. */
    private int wins(int a, int b) {
        if (a == 0 && b == 0) {
            return 1;
        }
        if (wins[a][b] == 0) {
            wins[a][b] = move(a, b) == null ? -1 : 1;
        }
        return wins[a][b];
    }

    private int[] move(int a, int b) {
        List<int[]> moves = new ArrayList<>();
        for (int n = 1; n <= 20; n++) {
            moves.add(new int[] {n, 0});
            moves.add(new int[] {0, n});
        }
        moves.add(new int[] {1, 1});
        moves.sort(Arrays::compare);
        for (int[] m : moves) {
            if (m[0] <= a && m[1] <= b && wins(a - m[0], b - m[1]) < 0) {
                return m;
            }
        }
        return null;
    }

    int forts(int a, int b) {
        if (Math.min(a, b) < 0 || Math.max(a, b) > 20) {
            return -1;
        }
        if (a + b == 0) {
            return -2;
        }
        int[] m = move(a, b);
        row = m == null ? new long[0] : new long[] {m[0], m[1]};
        return m == null ? 0 : 1;
    }

    int law() {
        String t = take();
        int wrong = ruleMisfit(t);
        if (wrong >= 0) {
            return -10000 - wrong;
        }
        String by = t.isEmpty() ? "d*2-w/2" : t;
        row = new long[2 + now.places.size()];
        row[0] = pairs(begins(by, now.gx, now.gy, now.day)).size();
        row[1] = pairsOn(now.day);
        for (int h = 0; h < now.places.size(); h++) {
            row[2 + h] = hears(by, h, now.gx, now.gy, now.day);
        }
        return (int) (row[0] - row[1]);
    }

    private static int has(int v, int x, int y) {
        int has = -x;
        if (y >= x) {
            has += v;
        }
        if (x < y) {
            has -= 2;
        }
        return has;
    }

    int rests(int v) {
        if (v < 0 || v > 20) {
            return -1;
        }
        List<long[]> rests = new ArrayList<>();
        for (int x = 0; x <= 9; x++) {
            for (int y = 0; y <= 9; y++) {
                boolean rest = true;
                for (int z = 0; z <= 9; z++) {
                    rest &= has(v, z, y) <= has(v, x, y) && has(v, z, x) <= has(v, y, x);
                }
                if (rest) {
                    rests.add(new long[] {x, y});
                }
            }
        }
        row = rests.isEmpty() ? new long[0] : rests.get(0);
        return rests.size();
    }

    private long drawn;

    private int draw(int n) {
        drawn = (drawn * 1103515245L + 12345L) & 0xFFFFFFFFL;
        return (int) (drawn / 65536 % n);
    }

    int years(int seed, int n) {
        if (n < 1 || n > 60) {
            return -1;
        }
        State before = now;
        now = now.copy();
        drawn = seed & 0xFFFFFFFFL;
        int sum = 0;
        int mute = 0;
        for (int i = 0; i < n; i++) {
            switch (draw(4)) {
                case 0:
                case 1:
                    int[] one = oneDay();
                    sum += one[0];
                    mute += one[1];
                    break;
                case 2:
                    int gx = draw(10);
                    int gy = draw(10);
                    doHauls(gx, gy);
                    break;
                default:
                    if (!now.places.isEmpty()) {
                        int house = draw(now.places.size());
                        int x = draw(10);
                        int y = draw(10);
                        doMoves(house, x, y);
                    }
            }
        }
        row = new long[] {now.powder, mute};
        now = before;
        return sum;
    }

    boolean keep(int i) {
        if (i < 0 || i > 2) {
            return false;
        }
        kept[i] = now.copy();
        return true;
    }

    boolean again(int i) {
        if (i < 0 || i > 2 || kept[i] == null) {
            return false;
        }
        now = kept[i].copy();
        past.clear();
        return true;
    }

    int count(int what) {
        int[] counts = {now.places.size(), homes.size(), now.day, now.powder, now.clashes, now.mute, now.gx,
            now.gy, wind(now.day), damp(now.day), reports.size(), past.size(), row.length, text.length()};
        return what < 0 || what >= counts.length ? -100 : counts[what];
    }
}

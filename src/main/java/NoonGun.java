import java.util.Arrays;
import java.util.NoSuchElementException;

/**
 * The town of the noon gun: who hears it when, which deeds begin and collide then, and what can be
 * asked of that. The numbered promises stand in the document of the project.
 *
 * <p>No call makes an object: all rows are made once, ahead, and used again.
 */
public final class NoonGun {
    public static final int NONE = -1;

    /** The call is right, but it is so already, or there is nothing to tell of. */
    private static final int NOTHING = -2;
    /** The call is right, but it can't be: too much, or missing. */
    private static final int CANNOT = -3;
    private static final int NO_SUCH_COUNT = -100;
    private static final int LAW_MISFIT = -10000;

    private static final int MOST_HOUSES = 8;
    private static final int MOST_DEEDS = 8;
    private static final int LANES = 4;
    private static final int SIDE = 10;
    private static final int PLACES = SIDE * SIDE;
    private static final int FARTHEST = 18;
    private static final int HOUSE_SIGNS = 23;
    private static final int DEED_SIGNS = 55;
    private static final int WEEK_SIGNS = 60;
    private static final int LONGEST_DEED = 9;
    private static final int MOST_POWDER = 99;
    private static final int MOST_CLASHES = 9999;
    private static final int MOST_MUTE = 999;
    private static final int MOST_DAYS = 60;
    private static final int DAYS_AHEAD = 100;
    private static final int KEEPS = 3;
    /** Pairs of DAMP and WIND, told as 10 * DAMP + WIND. */
    private static final int WEATHERS = 100;
    private static final int LAST_HEARD = 199;
    private static final int MOST_SHOTS = 15;
    private static final int MOST_SALUTES = 20;

    private final Text text = new Text();
    private final Row told = new Row();
    private final Digits windDigits = new Digits();
    private final Digits dampDigits = new Digits();
    private Rule ownRule = new Rule();
    /** A rule is read into this one first, so that one that can't stand harms nothing. */
    private Rule otherRule = new Rule();
    private final Town town = new Town();
    private final Past past = new Past();
    private final Town[] kept = new Town[KEEPS];
    private final boolean[] isKept = new boolean[KEEPS];
    private final Bang bang = new Bang();
    private final Plan plan = new Plan();
    private final Reports reports = new Reports();
    private final Forts twoForts = new Forts();
    private int houseCount = 0;
    private int drawn = 0;
    /** By HOUSES those near, or by DEEDS those that clash: bits. */
    private final int[] masks = new int[8];
    /** By how many misfires came last in a row: how likely, times 10 for each shot. */
    private final long[] chances = new long[MOST_SHOTS + 1];

    public NoonGun() {
        for (int i = 0; i < KEEPS; i++) {
            kept[i] = new Town();
        }
    }

    // ---- houses, deeds, winds, damps

    public int sign(int v) {
        return text.add(v) ? text.length : NONE;
    }

    public boolean end(int n) {
        return text.cut(n);
    }

    public int houses() {
        int answer = readHouses();
        if (answer > 0) {
            houseCount += answer;
            forgetPast();
        }
        text.clear();
        return answer;
    }

    public int deeds() {
        int answer = text.length == 0 ? 0 : readDeeds();
        if (answer > 0) {
            plan.size += answer;
            forgetPast();
        }
        text.clear();
        return answer;
    }

    public int winds() {
        return readDigits(windDigits);
    }

    public int damps() {
        return readDigits(dampDigits);
    }

    public int rule() {
        int misfit = otherRule.read(text);
        if (misfit == NONE) {
            Rule old = ownRule;
            ownRule = otherRule;
            otherRule = old;
        }
        text.clear();
        return -1 - misfit;
    }

    public int house(int house, int what) throws NoSuchElementException {
        if (!isHouse(house) || what < 0 || what > 5) {
            throw new NoSuchElementException("no such house, or nothing such of it");
        }
        switch (what) {
            case 0:
                return town.places[house] / SIDE;
            case 1:
                return town.places[house] % SIDE;
            case 2:
                return town.watches[house];
            case 3:
                return minuteOfGun(house);
            case 4:
                return minuteOfEcho(house);
            default:
                return plan.at(house);
        }
    }

    public int deed(int deed, int what) throws NoSuchElementException {
        if (!isDeed(deed) || what < 0 || what > 4) {
            throw new NoSuchElementException("no such deed, or nothing such of it");
        }
        planToday();
        switch (what) {
            case 0:
                return plan.homes[deed];
            case 1:
                return town.lengths[deed];
            case 2:
                return plan.lanes[deed];
            case 3:
                return plan.starts[deed];
            default:
                return plan.foes(deed);
        }
    }

    public int sheet(int kind, int n, int f, int step) {
        if (kind < 0 || kind > 3 || n > MOST_DEEDS) {
            return NONE;
        }
        boolean missing = kind == 3;
        if (!missing && n < 0) {
            return NOTHING;
        }
        int sum = 0;
        for (int i = 0; i < plan.size; i++) {
            boolean isTold = !missing && i < n;
            town.lengths[i] = isTold ? lengthOf(entry(kind, f + i * step)) : 1;
            sum += town.lengths[i];
        }
        return missing ? CANNOT : sum;
    }

    // ---- days

    public int days(int n) {
        past.note(town);
        return noted(passDays(n));
    }

    public int buys(int n) {
        past.note(town);
        return noted(buy(n));
    }

    public int hauls(int x, int y) {
        past.note(town);
        return noted(haul(x, y));
    }

    public int moves(int house, int x, int y) {
        past.note(town);
        return noted(move(house, x, y));
    }

    public int takes(int deed, int v) {
        past.note(town);
        return noted(lengthen(deed, v));
    }

    public int hill(int x, int y) {
        past.note(town);
        return noted(setHill(x, y));
    }

    public int week() {
        int misfit = weekMisfit();
        if (misfit != NONE) {
            text.clear();
            return -1 - misfit;
        }
        past.note(town);
        int done = 0;
        boolean refused = false;
        for (int p = 0; p < text.length && !refused; p += 1 + digitsOf(text.at(p))) {
            refused = doAct(p) < 0;
            done += refused ? 0 : 1;
        }
        if (done > 0) {
            past.add();
        }
        text.clear();
        told.tell(refused ? 1 : 0, town.clashes);
        return done;
    }

    public int undo() {
        return past.bringBack(town) ? past.size : NONE;
    }

    // ---- who begins when

    public int order() {
        planToday();
        plan.sort();
        told.clear();
        for (int i = 0; i < plan.size; i++) {
            told.add(plan.sorted[i]);
        }
        return plan.size;
    }

    public int clashes() {
        planToday();
        told.clear();
        int many = 0;
        for (int a = 0; a < plan.size; a++) {
            for (int b = a + 1; b < plan.size; b++) {
                if (plan.collide(a, b)) {
                    many++;
                    if (many == 1) {
                        told.tell(a, b);
                    }
                }
            }
        }
        return many;
    }

    public int span() {
        if (plan.size == 0) {
            return NOTHING;
        }
        planToday();
        int first = plan.firstMinute();
        int behind = plan.minuteBehind();
        int on = 0;
        for (int minute = first; minute < behind; minute++) {
            if (plan.howMany(minute, -1) > 0) {
                on++;
            }
        }
        told.tell(first, behind, behind - first - on);
        return on;
    }

    public int lane(int lane) {
        if (lane < 0 || lane >= LANES) {
            return NONE;
        }
        planToday();
        int used = 0;
        int most = 0;
        int when = NONE;
        int behind = plan.minuteBehind();
        for (int minute = plan.firstMinute(); minute < behind; minute++) {
            int many = plan.howMany(minute, 1 << lane);
            used += many > 0 ? 1 : 0;
            if (many > most) {
                most = many;
                when = minute;
            }
        }
        told.tell(most, when);
        return used;
    }

    public int ahead(int n) {
        if (n < 0 || n >= DAYS_AHEAD) {
            return NONE;
        }
        int day = town.day + n;
        told.tell(dampDigits.of(day), windDigits.of(day));
        return pairsOn(day);
    }

    public int quiet() {
        int first = NOTHING;
        int many = 0;
        for (int n = 0; n < DAYS_AHEAD; n++) {
            if (pairsOn(town.day + n) == 0) {
                first = many == 0 ? n : first;
                many++;
            }
        }
        if (many > 0) {
            told.tell(many);
        }
        return first;
    }

    public int lasts() {
        int sum = 0;
        for (int n = 0; n < town.powder; n++) {
            sum += pairsOn(town.day + n);
        }
        told.tell(sum);
        return town.powder;
    }

    // ---- what is put off, where the gun should be

    public int fewest() {
        int all = findFoes();
        int fewest = plan.size + 1;
        int which = 0;
        for (int off = 0; off <= all; off++) {
            int many = Integer.bitCount(off);
            if (many < fewest && isPeaceful(all & ~off)) {
                fewest = many;
                which = off;
            }
        }
        told.tell(which);
        return fewest;
    }

    public int longest() {
        int all = findFoes();
        int longest = 0;
        int which = 0;
        for (int set = 0; set <= all; set++) {
            int together = lengthsOf(set);
            boolean more = together > longest
                || together == longest && Integer.bitCount(set) > Integer.bitCount(which);
            if (more && isPeaceful(set)) {
                longest = together;
                which = set;
            }
        }
        told.tell(which);
        return longest;
    }

    public int best() {
        int fewest = 0;
        int where = NONE;
        for (int place = 0; place < PLACES; place++) {
            planFor(ownRule, place, town.day);
            int pairs = plan.pairs();
            if (where == NONE || pairs < fewest) {
                fewest = pairs;
                where = place;
            }
        }
        told.tell(where / SIDE, where % SIDE, pairsOn(town.day));
        return fewest;
    }

    public int middle() {
        if (houseCount == 0) {
            return NOTHING;
        }
        int earliest = 0;
        int where = NONE;
        for (int place = 0; place < PLACES; place++) {
            planFor(ownRule, place, town.day);
            int last = lastMinute();
            if (where == NONE || last < earliest) {
                earliest = last;
                where = place;
            }
        }
        told.tell(where / SIDE, where % SIDE);
        return earliest;
    }

    public int holds(int deed) {
        if (!isDeed(deed)) {
            return NONE;
        }
        planToday();
        for (int held = 0; held <= 9; held++) {
            if (plan.foes(deed) == 0) {
                told.tell(plan.starts[deed]);
                return held;
            }
            plan.holdBack(deed);
        }
        return NOTHING;
    }

    public int hands() {
        planToday();
        plan.sort();
        int many = plan.shareOut();
        told.clear();
        for (int i = 0; i < plan.size; i++) {
            told.add(plan.hands[i]);
        }
        return many;
    }

    // ---- echoes

    public int echo(int house) {
        if (!isHouse(house)) {
            return NONE;
        }
        planToday();
        int minute = minuteOfEcho(house);
        int behind = 0;
        for (int h = 0; h < houseCount; h++) {
            behind |= bang.minutes[h] > minute ? 1 << h : 0;
        }
        told.tell(behind);
        return 100 + minute - bang.minutes[house];
    }

    public int together() {
        planToday();
        int bits = 0;
        int different = 0;
        for (int h = 0; h < houseCount; h++) {
            int like = housesAt(bang.minutes[h]);
            bits |= like != 1 << h ? 1 << h : 0;
            // Of those that hear it together only the first one counts, which has none below it.
            different += like >> h << h == like ? 1 : 0;
        }
        told.tell(different);
        return bits;
    }

    // ---- when it went

    public int heard(int house, int v) {
        if (!isHouse(house) || v < 0 || v > LAST_HEARD || !reports.add(house, v)) {
            return NONE;
        }
        return reports.size;
    }

    public int forget() {
        int many = reports.size;
        reports.size = 0;
        return many;
    }

    public int fits() {
        int many = findWeathers();
        told.clear();
        if (many > 0) {
            told.tell(reports.weathers[0] / 10, reports.weathers[0] % 10);
        }
        return many;
    }

    public int asks() {
        if (houseCount == 0 || findWeathers() == 0) {
            return NOTHING;
        }
        int fewest = WEATHERS + 1;
        int whom = 0;
        for (int h = 0; h < houseCount; h++) {
            int left = mostLeft(h);
            if (left < fewest) {
                fewest = left;
                whom = h;
            }
        }
        told.tell(fewest);
        return whom;
    }

    // ---- watches

    public int menders(int v) {
        if (v < 0 || v > FARTHEST) {
            return NONE;
        }
        int all = findNear(v);
        int fewest = houseCount + 1;
        int which = 0;
        for (int set = 0; set <= all; set++) {
            int many = Integer.bitCount(set);
            if (many < fewest && nearOf(set) == all) {
                fewest = many;
                which = set;
            }
        }
        told.tell(which);
        return fewest;
    }

    public int apart() {
        if (houseCount < 2) {
            return NOTHING;
        }
        int most = NONE;
        for (int a = 0; a < houseCount; a++) {
            for (int b = a + 1; b < houseCount; b++) {
                int differ = Math.abs(town.watches[a] - town.watches[b]);
                if (differ > most) {
                    most = differ;
                    told.tell(a, b);
                }
            }
        }
        return most;
    }

    // ---- misfires, two forts

    public int misfires(int n, int k, int p) {
        if (n < 1 || n > MOST_SHOTS || k < 1 || k > MOST_SHOTS || p < 0 || p > 10) {
            return NONE;
        }
        Arrays.fill(chances, 0);
        chances[0] = 1;
        long whole = 1;
        for (int shot = 0; shot < n; shot++) {
            fireOnce(k, p);
            whole *= 10;
        }
        tellFraction(sumOfChances(k), whole);
        return 0;
    }

    public int forts(int a, int b) {
        if (a < 0 || a > Forts.MOST || b < 0 || b > Forts.MOST) {
            return NONE;
        }
        if (a == 0 && b == 0) {
            return NOTHING;
        }
        told.clear();
        for (int first = 0; first <= a; first++) {
            for (int second = 0; second <= b; second++) {
                if (Forts.isMove(first, second) && twoForts.loses(a - first, b - second)) {
                    told.tell(first, second);
                    return 1;
                }
            }
        }
        return 0;
    }

    // ---- laws, rests, years

    public int law() {
        int misfit = otherRule.read(text);
        text.clear();
        if (misfit != NONE) {
            return LAW_MISFIT - misfit;
        }
        int own = pairsOn(town.day);
        planFor(otherRule, town.gun, town.day);
        int other = plan.pairs();
        told.tell(other, own);
        for (int h = 0; h < houseCount; h++) {
            told.add(bang.minutes[h]);
        }
        return other - own;
    }

    public int rests(int v) {
        if (v < 0 || v > MOST_SALUTES) {
            return NONE;
        }
        told.clear();
        int many = 0;
        for (int x = 0; x <= 9; x++) {
            for (int y = 0; y <= 9; y++) {
                if (isContent(v, x, y) && isContent(v, y, x)) {
                    many++;
                    if (many == 1) {
                        told.tell(x, y);
                    }
                }
            }
        }
        return many;
    }

    public int years(int seed, int n) {
        if (n < 1 || n > MOST_DAYS) {
            return NONE;
        }
        // It is a question: the town goes through them, and is then as it was.
        past.note(town);
        drawn = seed;
        int sum = 0;
        int mute = 0;
        for (int i = 0; i < n; i++) {
            int what = draw(4);
            if (what < 2) {
                int pairs = passDay();
                sum += Math.max(pairs, 0);
                mute += pairs == NONE ? 1 : 0;
            } else if (what == 2) {
                int x = draw(SIDE);
                haul(x, draw(SIDE));
            } else if (houseCount > 0) {
                int house = draw(houseCount);
                int x = draw(SIDE);
                move(house, x, draw(SIDE));
            }
        }
        told.tell(town.powder, mute);
        past.takeBack(town);
        return sum;
    }

    // ---- kept

    public boolean keep(int i) {
        if (i < 0 || i >= KEEPS) {
            return false;
        }
        kept[i].copy(town);
        isKept[i] = true;
        return true;
    }

    public boolean again(int i) {
        if (i < 0 || i >= KEEPS || !isKept[i]) {
            return false;
        }
        town.copy(kept[i]);
        past.drop();
        return true;
    }

    public int count(int what) {
        switch (what) {
            case 0:
                return houseCount;
            case 1:
                return plan.size;
            case 2:
                return town.day;
            case 3:
                return town.powder;
            case 4:
                return town.clashes;
            case 5:
                return town.mute;
            case 6:
                return town.gun / SIDE;
            case 7:
                return town.gun % SIDE;
            case 8:
                return windDigits.of(town.day);
            case 9:
                return dampDigits.of(town.day);
            case 10:
                return reports.size;
            case 11:
                return past.size;
            case 12:
                return told.size;
            case 13:
                return text.length;
            default:
                return NO_SUCH_COUNT;
        }
    }

    public long row(int i) throws NoSuchElementException {
        if (i < 0 || i >= told.size) {
            throw new NoSuchElementException("no such number of the row");
        }
        return told.numbers[i];
    }

    // ---- what is told as texts

    private boolean isHouse(int house) {
        return house >= 0 && house < houseCount;
    }

    private boolean isDeed(int deed) {
        return deed >= 0 && deed < plan.size;
    }

    /** What was kept has no room for HOUSES or DEEDS that come later. */
    private void forgetPast() {
        past.drop();
        for (int i = 0; i < KEEPS; i++) {
            isKept[i] = false;
        }
    }

    /** How many LINES, or -1 - p; they are written behind the HOUSES, where they don't count yet. */
    private int readHouses() {
        for (int p = 0; p < text.length; p++) {
            if (p == HOUSE_SIGNS || !fitsHouse(p)) {
                return -1 - p;
            }
        }
        boolean ends = text.length == 0 || text.length % 3 == 2;
        return ends ? (text.length + 1) / 3 : -1 - text.length;
    }

    /** Each LINE has three signs, the ; behind it with it. */
    private boolean fitsHouse(int p) {
        int house = houseCount + p / 3;
        int digit = text.digit(p);
        if (p % 3 == 2) {
            return text.at(p) == ';';
        }
        if (digit == NONE || house >= MOST_HOUSES) {
            return false;
        }
        if (p % 3 == 0) {
            town.places[house] = digit * SIDE;
            town.watches[house] = 0;
        } else {
            town.places[house] += digit;
        }
        return true;
    }

    /** How many LINES, or -1 - p; they are written behind the DEEDS, where they don't count yet. */
    private int readDeeds() {
        int lines = 0;
        int part = 0;
        for (int p = 0; p < text.length; p++) {
            if (p == DEED_SIGNS) {
                return -1 - p;
            }
            if (part > 2 && text.at(p) == ';') {
                lines++;
                part = 0;
            } else if (fitsDeed(plan.size + lines, part, p)) {
                part++;
            } else {
                return -1 - p;
            }
        }
        return part > 2 ? lines + 1 : -1 - text.length;
    }

    /** Parts of a LINE: 0 the HOUSE, 1 the LENGTH, all others LANES. */
    private boolean fitsDeed(int deed, int part, int p) {
        if (deed >= MOST_DEEDS) {
            return false;
        }
        int digit = text.digit(p);
        if (part == 0) {
            plan.homes[deed] = Math.max(0, digit);
            plan.lanes[deed] = 0;
            return isHouse(digit);
        }
        if (part == 1) {
            town.lengths[deed] = digit;
            return digit > 0;
        }
        int lane = text.at(p) - 'a';
        boolean rises = lane >= 0 && lane < LANES && plan.lanes[deed] >> lane == 0;
        if (rises) {
            plan.lanes[deed] |= 1 << lane;
        }
        return rises;
    }

    private int readDigits(Digits digits) {
        int misfit = digits.read(text);
        int answer = misfit == NONE ? text.length : -1 - misfit;
        text.clear();
        return answer;
    }

    private static int entry(int kind, int v) {
        if (kind == 0) {
            return (byte) v;
        }
        return kind == 1 ? (short) v : v;
    }

    private static int lengthOf(int v) {
        return Math.max(1, Math.min(LONGEST_DEED, v));
    }

    // ---- acts: each is refused below 0 and changes nothing then

    private int noted(int answer) {
        if (answer >= 0) {
            past.add();
        }
        return answer;
    }

    private int passDays(int n) {
        if (n < 0 || n > MOST_DAYS) {
            return NONE;
        }
        int sum = 0;
        int mute = 0;
        for (int i = 0; i < n; i++) {
            int pairs = passDay();
            sum += Math.max(pairs, 0);
            mute += pairs == NONE ? 1 : 0;
        }
        told.tell(sum, mute);
        return town.powder;
    }

    /** A DAY goes by: pairs that clashed, NONE if the gun was mute. */
    private int passDay() {
        int pairs = NONE;
        if (town.powder > 0) {
            planFor(ownRule, town.gun, town.day);
            pairs = plan.pairs();
            town.powder--;
            town.clashes = Math.min(MOST_CLASHES, town.clashes + pairs);
            System.arraycopy(bang.minutes, 0, town.watches, 0, houseCount);
        } else {
            town.mute = Math.min(MOST_MUTE, town.mute + 1);
        }
        town.day++;
        return pairs;
    }

    private int buy(int n) {
        if (n < 1 || n > MOST_POWDER) {
            return NONE;
        }
        if (town.powder + n > MOST_POWDER) {
            return CANNOT;
        }
        town.powder += n;
        return town.powder;
    }

    private int haul(int x, int y) {
        int place = placeOf(x, y);
        if (place == NONE) {
            return NONE;
        }
        int far = far(town.gun, place);
        town.gun = place;
        return far == 0 ? NOTHING : far;
    }

    private int move(int house, int x, int y) {
        int place = placeOf(x, y);
        if (place == NONE || !isHouse(house)) {
            return NONE;
        }
        int far = far(town.places[house], place);
        town.places[house] = place;
        return far == 0 ? NOTHING : far;
    }

    private int lengthen(int deed, int v) {
        if (!isDeed(deed) || v < 1 || v > LONGEST_DEED) {
            return NONE;
        }
        int old = town.lengths[deed];
        town.lengths[deed] = v;
        return old == v ? NOTHING : old;
    }

    private int setHill(int x, int y) {
        int place = placeOf(x, y);
        if (place == NONE) {
            return NONE;
        }
        int far = far(town.hill, place);
        town.hill = place;
        return far;
    }

    /** Where the text can't be a week, or NONE. */
    private int weekMisfit() {
        char act = 0;
        int left = 0;
        for (int p = 0; p < text.length; p++) {
            if (p == WEEK_SIGNS) {
                return p;
            }
            if (left == 0) {
                act = text.at(p);
                left = digitsOf(act);
                if (left == 0) {
                    return p;
                }
            } else {
                boolean notZero = act == 'b' || act == 'l' && left == 1;
                if (text.digit(p) < (notZero ? 1 : 0)) {
                    return p;
                }
                left--;
            }
        }
        return left == 0 ? NONE : text.length;
    }

    /** How many digits an act has behind its letter; 0: it is none. */
    private static int digitsOf(char act) {
        switch (act) {
            case 'n':
            case 'b':
                return 1;
            case 'g':
            case 'l':
                return 2;
            case 'm':
                return 3;
            default:
                return 0;
        }
    }

    private int doAct(int p) {
        int a = text.digit(p + 1);
        int b = text.digit(p + 2);
        switch (text.at(p)) {
            case 'n':
                return passDays(a);
            case 'b':
                return buy(a);
            case 'g':
                return haul(a, b);
            case 'm':
                return move(a, b, text.digit(p + 3));
            default:
                return lengthen(a, b);
        }
    }

    /** A DRAW; it is asked for at least 1 of them. */
    private int draw(int n) {
        drawn = drawn * 1103515245 + 12345;
        return n > 0 ? (drawn >>> 16) % n : 0;
    }

    // ---- places and minutes

    private static int placeOf(int x, int y) {
        boolean isPlace = x >= 0 && x < SIDE && y >= 0 && y < SIDE;
        return isPlace ? x * SIDE + y : NONE;
    }

    private static int far(int a, int b) {
        return Math.abs(a / SIDE - b / SIDE) + Math.abs(a % SIDE - b % SIDE);
    }

    /** When all HOUSES hear a gun that is on a PLACE, and all DEEDS begin, on a DAY. */
    private void planFor(Rule rule, int gun, int day) {
        bang.on(day, dampDigits.of(day), windDigits.of(day));
        for (int h = 0; h < houseCount; h++) {
            int place = town.places[h];
            bang.minutes[h] = bang.minute(rule, far(gun, place), place, 0);
        }
        plan.begin(bang.minutes, town.lengths);
    }

    private void planToday() {
        planFor(ownRule, town.gun, town.day);
    }

    private int pairsOn(int day) {
        planFor(ownRule, town.gun, day);
        return plan.pairs();
    }

    private int minuteOfGun(int house) {
        int place = town.places[house];
        bang.on(town.day, dampDigits.of(town.day), windDigits.of(town.day));
        return bang.minute(ownRule, far(town.gun, place), place, 0);
    }

    private int minuteOfEcho(int house) {
        int place = town.places[house];
        int far = far(town.gun, town.hill) + far(town.hill, place);
        bang.on(town.day, dampDigits.of(town.day), windDigits.of(town.day));
        return bang.minute(ownRule, far, place, 1);
    }

    private int lastMinute() {
        int last = 0;
        for (int h = 0; h < houseCount; h++) {
            last = Math.max(last, bang.minutes[h]);
        }
        return last;
    }

    private int housesAt(int minute) {
        int bits = 0;
        for (int h = 0; h < houseCount; h++) {
            bits |= bang.minutes[h] == minute ? 1 << h : 0;
        }
        return bits;
    }

    // ---- sets of deeds and houses

    /** The masks tell with whom each DEED clashes on this DAY: all DEEDS. */
    private int findFoes() {
        planToday();
        for (int i = 0; i < plan.size; i++) {
            masks[i] = plan.foes(i);
        }
        return (1 << plan.size) - 1;
    }

    private boolean isPeaceful(int set) {
        for (int i = 0; i < plan.size; i++) {
            if ((set >> i & 1) == 1 && (masks[i] & set) != 0) {
                return false;
            }
        }
        return true;
    }

    private int lengthsOf(int set) {
        int sum = 0;
        for (int i = 0; i < plan.size; i++) {
            sum += (set >> i & 1) * town.lengths[i];
        }
        return sum;
    }

    /** The masks tell which HOUSES each one is near: all HOUSES. */
    private int findNear(int v) {
        for (int a = 0; a < houseCount; a++) {
            masks[a] = 0;
            for (int b = 0; b < houseCount; b++) {
                masks[a] |= far(town.places[a], town.places[b]) <= v ? 1 << b : 0;
            }
        }
        return (1 << houseCount) - 1;
    }

    private int nearOf(int set) {
        int near = 0;
        for (int h = 0; h < houseCount; h++) {
            near |= (set >> h & 1) == 1 ? masks[h] : 0;
        }
        return near;
    }

    // ---- when it went

    private int minuteBy(int weather, int house) {
        int place = town.places[house];
        bang.on(town.day, weather / 10, weather % 10);
        return bang.minute(ownRule, far(town.gun, place), place, 0);
    }

    /** Notes all pairs of DAMP and WIND that fit what was heard: how many. */
    private int findWeathers() {
        int many = 0;
        for (int weather = 0; weather < WEATHERS; weather++) {
            if (fitsReports(weather)) {
                reports.weathers[many] = weather;
                many++;
            }
        }
        reports.weatherCount = many;
        return many;
    }

    private boolean fitsReports(int weather) {
        for (int i = 0; i < reports.size; i++) {
            if (minuteBy(weather, reports.houses[i]) != reports.minutes[i]) {
                return false;
            }
        }
        return true;
    }

    /** How many noted pairs are left, if a HOUSE tells the minute by which the most are. */
    private int mostLeft(int house) {
        int most = 0;
        Arrays.fill(reports.tally, 0);
        for (int i = 0; i < reports.weatherCount; i++) {
            most = Math.max(most, reports.countMinute(minuteBy(reports.weathers[i], house)));
        }
        return most;
    }

    // ---- chances and games

    /** One more shot: a misfire makes the row of misfires longer, as long as it stays below k. */
    private void fireOnce(int k, int p) {
        long fires = sumOfChances(k) * (10 - p);
        for (int misfires = k - 1; misfires > 0; misfires--) {
            chances[misfires] = chances[misfires - 1] * p;
        }
        chances[0] = fires;
    }

    private long sumOfChances(int k) {
        long sum = 0;
        for (int misfires = 0; misfires < k; misfires++) {
            sum += chances[misfires];
        }
        return sum;
    }

    private void tellFraction(long upper, long lower) {
        long a = lower;
        long b = upper;
        // Euclid's rest is at least halved in two steps: no long needs 128.
        for (int i = 0; i < 128 && b != 0; i++) {
            long rest = a % b;
            a = b;
            b = rest;
        }
        if (a != 0) {
            told.tell(upper / a, lower / a);
        }
    }

    private static int salute(int v, int own, int other) {
        return (other >= own ? v : 0) - own - (own < other ? 2 : 0);
    }

    private static boolean isContent(int v, int own, int other) {
        int has = salute(v, own, other);
        for (int instead = 0; instead <= 9; instead++) {
            if (salute(v, instead, other) > has) {
                return false;
            }
        }
        return true;
    }

    /** THE TEXT, as it comes, sign by sign. */
    private static final class Text {
        private static final int MOST = 80;

        private final char[] signs = new char[MOST];
        private int length = 0;

        private boolean add(int v) {
            if (length + 4 > MOST) {
                return false;
            }
            for (int shift = 24; shift >= 0; shift -= 8) {
                signs[length] = (char) (v >>> shift & 255);
                length++;
            }
            return true;
        }

        private boolean cut(int n) {
            if (n < 0 || n > length) {
                return false;
            }
            length = n;
            return true;
        }

        private void clear() {
            length = 0;
        }

        /** The sign at p; behind the end one that can stand nowhere. */
        private char at(int p) {
            return p >= 0 && p < length ? signs[p] : 0;
        }

        private int digit(int p) {
            char sign = at(p);
            return sign >= '0' && sign <= '9' ? sign - '0' : NONE;
        }
    }

    /** ROW: the numbers that were told last. */
    private static final class Row {
        private static final int MOST = 16;

        private final long[] numbers = new long[MOST];
        private int size = 0;

        private void clear() {
            size = 0;
        }

        private void add(long number) {
            if (size < MOST) {
                numbers[size] = number;
                size++;
            }
        }

        private void tell(long a) {
            clear();
            add(a);
        }

        private void tell(long a, long b) {
            tell(a);
            add(b);
        }

        private void tell(long a, long b, long c) {
            tell(a, b);
            add(c);
        }
    }

    /** WINDS or DAMPS: a digit for each DAY, over and over. */
    private static final class Digits {
        private static final int MOST = 20;

        private final int[] digits = new int[MOST];
        private int size = 1;

        /** Where the text can't stand (then nothing changes), or NONE. */
        private int read(Text text) {
            for (int p = 0; p < text.length; p++) {
                if (p == MOST || text.digit(p) == NONE) {
                    return p;
                }
            }
            if (text.length == 0) {
                return 0;
            }
            size = text.length;
            for (int p = 0; p < size; p++) {
                digits[p] = text.digit(p);
            }
            return NONE;
        }

        private int of(int day) {
            return size > 0 && day >= 0 ? digits[day % size] : 0;
        }
    }

    /**
     * THE RULE, kept as it is reckoned: things first, what is done with them behind. Of the signs
     * of a rule each makes one step at most, so the text's limit is that of all rows here.
     */
    private static final class Rule {
        private static final int SIGNS = 40;
        private static final int DEEPEST = 4;
        private static final int MOST_NUMBER_SIGNS = 3;
        private static final int LATEST = 99;
        private static final String NAMES = "dwmxyne";

        /** Steps below NAME are numbers, those below DOING names, the others doings by their sign. */
        private static final int NAME = 1000;
        private static final int DOING = 2000;
        /** The - ahead of a thing, told apart from the one between two. */
        private static final char MINUS_AHEAD = '~';
        /** d*2-w/2 */
        private static final int[] FIRST = {
            NAME, 2, DOING + '*', NAME + 1, 2, DOING + '/', DOING + '-'
        };

        private final int[] steps = new int[SIGNS];
        private int size = 0;
        private final int[] values = new int[SIGNS];
        /** Doings and ( that wait for what comes behind them. */
        private final char[] waiting = new char[SIGNS];
        private int waits = 0;
        private int depth = 0;
        private int numberSigns = 0;
        private boolean wantsThing = true;

        private Rule() {
            takeFirst();
        }

        private void takeFirst() {
            System.arraycopy(FIRST, 0, steps, 0, FIRST.length);
            size = FIRST.length;
        }

        /** Where the text can't stand (then this is no rule), or NONE. */
        private int read(Text text) {
            if (text.length == 0) {
                takeFirst();
                return NONE;
            }
            size = 0;
            waits = 0;
            depth = 0;
            wantsThing = true;
            for (int p = 0; p < text.length; p++) {
                if (p == SIGNS || !accepts(text.at(p))) {
                    return p;
                }
            }
            if (wantsThing || depth > 0) {
                return text.length;
            }
            settle(1);
            return NONE;
        }

        private boolean accepts(char sign) {
            if (wantsThing) {
                return beginsThing(sign);
            }
            if (sign >= '0' && sign <= '9') {
                return goesOnNumber(sign);
            }
            return sign == ')' ? closes() : joins(sign);
        }

        private boolean beginsThing(char sign) {
            if (sign == '-') {
                await(MINUS_AHEAD);
                return true;
            }
            if (sign == '(') {
                depth++;
                await(sign);
                return depth <= DEEPEST;
            }
            boolean isNumber = sign >= '0' && sign <= '9';
            int name = NAMES.indexOf(sign);
            if (!isNumber && name < 0) {
                return false;
            }
            step(isNumber ? sign - '0' : NAME + name);
            numberSigns = isNumber ? 1 : MOST_NUMBER_SIGNS;
            wantsThing = false;
            return true;
        }

        private boolean goesOnNumber(char sign) {
            if (numberSigns >= MOST_NUMBER_SIGNS || size == 0) {
                return false;
            }
            numberSigns++;
            steps[size - 1] = steps[size - 1] * 10 + (sign - '0');
            return true;
        }

        private boolean closes() {
            if (depth == 0 || waits == 0) {
                return false;
            }
            settle(1);
            waits--;
            depth--;
            numberSigns = MOST_NUMBER_SIGNS;
            return true;
        }

        private boolean joins(char sign) {
            int binds = binding(sign);
            if (binds == 0 || sign == MINUS_AHEAD) {
                return false;
            }
            settle(Math.max(binds, 2));
            boolean isSecondComparison = binds == 1 && binding(lastWaiting()) == 1;
            await(sign);
            wantsThing = true;
            return !isSecondComparison;
        }

        private static int binding(char sign) {
            switch (sign) {
                case '<':
                case '>':
                case '=':
                    return 1;
                case '+':
                case '-':
                    return 2;
                case '*':
                case '/':
                    return 3;
                case MINUS_AHEAD:
                    return 4;
                default:
                    return 0;
            }
        }

        private char lastWaiting() {
            return waits > 0 ? waiting[waits - 1] : 0;
        }

        private void await(char sign) {
            if (waits < SIGNS) {
                waiting[waits] = sign;
                waits++;
            }
        }

        private void step(int step) {
            if (size < SIGNS) {
                steps[size] = step;
                size++;
            }
        }

        /** What waits and binds so much or more is done, back to the ( that is open. */
        private void settle(int binds) {
            for (int i = 0; i < SIGNS && waits > 0 && binding(lastWaiting()) >= binds; i++) {
                step(DOING + lastWaiting());
                waits--;
            }
        }

        /** DELAY by things in the order of their names. */
        private int delay(int[] things) {
            int top = 0;
            for (int i = 0; i < size; i++) {
                int step = steps[i];
                if (step < DOING && top < SIGNS) {
                    values[top] = valueOf(step, things);
                    top++;
                } else if (step == DOING + MINUS_AHEAD && top > 0) {
                    values[top - 1] = -values[top - 1];
                } else if (top > 1) {
                    top--;
                    values[top - 1] = reckon(step - DOING, values[top - 1], values[top]);
                }
            }
            return Math.max(0, Math.min(LATEST, values[0]));
        }

        /** Of a step that is a number or a name. */
        private static int valueOf(int step, int[] things) {
            if (step < NAME) {
                return step;
            }
            return step - NAME < things.length ? things[step - NAME] : 0;
        }

        private static int reckon(int doing, int a, int b) {
            switch (doing) {
                case '<':
                    return a < b ? 1 : 0;
                case '>':
                    return a > b ? 1 : 0;
                case '=':
                    return a == b ? 1 : 0;
                case '+':
                    return a + b;
                case '-':
                    return a - b;
                case '*':
                    return a * b;
                default:
                    return b == 0 ? 0 : a / b;
            }
        }
    }

    /** What undo() and again() bring back. A PLACE is told as 10 * x + y. */
    private static final class Town {
        private int gun = 0;
        private int hill = PLACES - 1;
        private int powder = 20;
        private int clashes = 0;
        private int mute = 0;
        private int day = 0;
        private final int[] places = new int[MOST_HOUSES];
        private final int[] watches = new int[MOST_HOUSES];
        private final int[] lengths = new int[MOST_DEEDS];

        private void copy(Town other) {
            gun = other.gun;
            hill = other.hill;
            powder = other.powder;
            clashes = other.clashes;
            mute = other.mute;
            day = other.day;
            System.arraycopy(other.places, 0, places, 0, MOST_HOUSES);
            System.arraycopy(other.watches, 0, watches, 0, MOST_HOUSES);
            System.arraycopy(other.lengths, 0, lengths, 0, MOST_DEEDS);
        }
    }

    /** The latest acts that can be undone, in a ring. */
    private static final class Past {
        private static final int MOST = 15;
        /** One room more, for the act that is not known to be done yet. */
        private static final int ROOMS = MOST + 1;

        private final Town[] towns = new Town[ROOMS];
        private int next = 0;
        private int size = 0;

        private Past() {
            for (int i = 0; i < ROOMS; i++) {
                towns[i] = new Town();
            }
        }

        /** How it is ahead of an act; that counts only with add(), when the act is done. */
        private void note(Town town) {
            towns[next].copy(town);
        }

        /** It is as was noted last, and that does not count. */
        private void takeBack(Town town) {
            town.copy(towns[next]);
        }

        private void add() {
            next = (next + 1) % ROOMS;
            size = Math.min(MOST, size + 1);
        }

        private boolean bringBack(Town town) {
            if (size == 0) {
                return false;
            }
            next = (next + MOST) % ROOMS;
            size--;
            takeBack(town);
            return true;
        }

        private void drop() {
            size = 0;
        }
    }

    /** A bang that comes to PLACES on one DAY. */
    private static final class Bang {
        private final int[] things = new int[Rule.NAMES.length()];
        /** By HOUSES, when they hear the gun; whoever asks fills them. */
        private final int[] minutes = new int[MOST_HOUSES];

        private void on(int day, int damp, int wind) {
            things[1] = wind;
            things[2] = damp;
            things[5] = day % 7;
        }

        private int minute(Rule rule, int far, int place, int isEcho) {
            things[0] = far;
            things[3] = place / SIDE;
            things[4] = place % SIDE;
            things[6] = isEcho;
            return things[2] + rule.delay(things);
        }
    }

    /** DEEDS, and on which minutes they are, as begin() was told last. */
    private static final class Plan {
        private int size = 0;
        private final int[] homes = new int[MOST_DEEDS];
        private final int[] lanes = new int[MOST_DEEDS];
        private final int[] starts = new int[MOST_DEEDS];
        /** The minute behind the last one of each. */
        private final int[] stops = new int[MOST_DEEDS];
        private final int[] sorted = new int[MOST_DEEDS];
        private final int[] hands = new int[MOST_DEEDS];
        /** By hands, when each is free again. */
        private final int[] free = new int[MOST_DEEDS];

        private void begin(int[] minutes, int[] lengths) {
            for (int i = 0; i < size; i++) {
                starts[i] = minutes[homes[i]];
                stops[i] = starts[i] + lengths[i];
            }
        }

        private void holdBack(int deed) {
            starts[deed]++;
            stops[deed]++;
        }

        private int at(int house) {
            int bits = 0;
            for (int i = 0; i < size; i++) {
                bits |= homes[i] == house ? 1 << i : 0;
            }
            return bits;
        }

        private boolean collide(int a, int b) {
            return a != b && (lanes[a] & lanes[b]) != 0
                && starts[a] < stops[b] && starts[b] < stops[a];
        }

        private int foes(int deed) {
            int bits = 0;
            for (int i = 0; i < size; i++) {
                bits |= collide(deed, i) ? 1 << i : 0;
            }
            return bits;
        }

        private int pairs() {
            int many = 0;
            for (int a = 0; a < size; a++) {
                for (int b = a + 1; b < size; b++) {
                    many += collide(a, b) ? 1 : 0;
                }
            }
            return many;
        }

        private int firstMinute() {
            int first = size > 0 ? starts[0] : 0;
            for (int i = 1; i < size; i++) {
                first = Math.min(first, starts[i]);
            }
            return first;
        }

        private int minuteBehind() {
            int behind = 0;
            for (int i = 0; i < size; i++) {
                behind = Math.max(behind, stops[i]);
            }
            return behind;
        }

        /** How many DEEDS that need one of these LANES are on in a minute. */
        private int howMany(int minute, int someLanes) {
            int many = 0;
            for (int i = 0; i < size; i++) {
                boolean isOn = starts[i] <= minute && minute < stops[i];
                many += isOn && (lanes[i] & someLanes) != 0 ? 1 : 0;
            }
            return many;
        }

        /** Like ones stay by their numbers, as each goes only ahead of such as begin later. */
        private void sort() {
            for (int i = 0; i < size; i++) {
                int to = i;
                while (to > 0 && starts[sorted[to - 1]] > starts[i]) {
                    sorted[to] = sorted[to - 1];
                    to--;
                }
                sorted[to] = i;
            }
        }

        /** Gives the sorted DEEDS to hands: how many hands. */
        private int shareOut() {
            int many = 0;
            for (int i = 0; i < size; i++) {
                int deed = sorted[i];
                int hand = 0;
                while (hand < many && free[hand] > starts[deed]) {
                    hand++;
                }
                many = Math.max(many, hand + 1);
                hands[deed] = hand;
                free[hand] = stops[deed];
            }
            return many;
        }
    }

    /** Who heard the gun when, on some day, and by which DAMP and WIND that can be. */
    private static final class Reports {
        private static final int MOST = 10;
        /** More minutes than the latest one, by DAMP 9 and DELAY 99. */
        private static final int MINUTES = 120;

        private final int[] houses = new int[MOST];
        private final int[] minutes = new int[MOST];
        private int size = 0;
        private final int[] weathers = new int[WEATHERS];
        private int weatherCount = 0;
        private final int[] tally = new int[MINUTES];

        private boolean add(int house, int minute) {
            if (size >= MOST) {
                return false;
            }
            houses[size] = house;
            minutes[size] = minute;
            size++;
            return true;
        }

        /** How often this minute is in the tally, with this time. */
        private int countMinute(int minute) {
            if (minute < 0 || minute >= MINUTES) {
                return 0;
            }
            tally[minute]++;
            return tally[minute];
        }
    }

    /** The game of two forts: from which heaps he who is to fire loses. */
    private static final class Forts {
        private static final int MOST = 20;

        /** By the first heap, bits of second ones. */
        private final int[] losing = new int[MOST + 1];
        private boolean isKnown = false;

        private static boolean isMove(int first, int second) {
            return first == 0 && second > 0 || first > 0 && second == 0
                || first == 1 && second == 1;
        }

        private boolean loses(int a, int b) {
            if (!isKnown) {
                findLosing();
                isKnown = true;
            }
            return (losing[a] >> b & 1) == 1;
        }

        private void findLosing() {
            // Second heaps with which some lesser first heap loses: to them a shot can lead.
            int below = 0;
            for (int a = 0; a <= MOST; a++) {
                int cross = a > 0 ? losing[a - 1] << 1 : 0;
                for (int b = 0; b <= MOST; b++) {
                    boolean leads = losing[a] != 0 || ((below | cross) >> b & 1) == 1;
                    // Without balls the other one has just fired the last one, and lost.
                    if (!leads && a + b > 0) {
                        losing[a] |= 1 << b;
                    }
                }
                below |= losing[a];
            }
        }
    }
}

import java.util.Arrays;
import java.util.Random;

/** Long runs of drawn calls, in which the program answers as the model does, promises 1 to 49. */
public final class ModelTest {
    private static final int RUNS = 2500;
    /** What an object answers is promised for so many calls. */
    private static final int MOST_CALLS = 512;
    /** So many the last look at all of a town takes at most. */
    private static final int LOOK = 16 + 23 + 8 * 11;
    /** So many one step takes at most, with a text of 80 signs and a look at what it counts. */
    private static final int STEP = 23 + 16 + 2 * 23;
    private static final String[] RULES = {
        "", "d", "d*2-w/2", "d*3+m", "x*10+y", "d/2+(n=3)*9", "(d>4)*20+w", "99-d*5", "e*30+d", "-d+20",
        "m*10+w", "d*d/(w-4)", "((((d))))*2", "1", "0-5", "d<w", "999*999*999*d", "(n<4)*(d+w)-(x>y)*m",
    };
    private static final String RULE_SIGNS = "dwmxyne0123456789()+-*/<>=";
    private static final String ANY_SIGNS = "0123456789;abcdnbgmlx()+-*/<>= \u0000\u00ff";

    private static Random random;
    private static String trail;
    private static int spent;

    public static void main(String[] args) {
        for (int run = 0; run < RUNS; run++) {
            random = new Random(run);
            trail = "run " + run + ", call ";
            oneRun();
        }
        Check.end();
    }

    private static void oneRun() {
        NoonGun gun = new NoonGun();
        Model model = new Model();
        spent = 0;
        int fill = random.nextInt(5);
        // Some runs look often at all of the town, others go further.
        int seldom = 1 + random.nextInt(40);
        for (int i = 0; spent + STEP + LOOK <= MOST_CALLS; i++) {
            // At first HOUSES and DEEDS come, in some runs till there is no room for more.
            int what = i < 2 * fill ? 2 + i % 2 : random.nextInt(52);
            String at = trail + i + " of kind " + what;
            call(gun, model, what, at);
            spent += what < 10 || what == 16 ? 2 : 1;
            if (random.nextInt(2) == 0) {
                sameRow(gun, model, at);
            }
            if (random.nextInt(seldom) == 0) {
                sameCounts(gun, model, at);
            }
        }
        sameCounts(gun, model, trail + "last");
        sameTown(gun, model, trail + "last");
    }

    private static void sameCounts(NoonGun gun, Model model, String at) {
        for (int what = -1; what <= 14; what++) {
            Check.due(at + ", then count " + what, gun.count(what), model.count(what));
        }
        spent += 16;
        sameRow(gun, model, at);
    }

    private static void sameRow(NoonGun gun, Model model, String at) {
        Check.dueRow(at, gun, model.row);
        spent += 3 + 2 * model.row.length;
    }

    private static void sameTown(NoonGun gun, Model model, String at) {
        for (int i = 0; i < 8; i++) {
            for (int what = 0; what <= 5; what++) {
                sameHouse(gun, model, i, what, at);
            }
            for (int what = 0; what <= 4; what++) {
                sameDeed(gun, model, i, what, at);
            }
        }
    }

    private static void sameHouse(NoonGun gun, Model model, int i, int what, String at) {
        Integer want = model.house(i, what);
        String call = at + ", then house " + i + " " + what;
        if (want == null) {
            Check.dueNoSuch(call, () -> gun.house(i, what));
        } else {
            Check.due(call, gun.house(i, what), want);
        }
    }

    private static void sameDeed(NoonGun gun, Model model, int i, int what, String at) {
        Integer want = model.deed(i, what);
        String call = at + ", then deed " + i + " " + what;
        if (want == null) {
            Check.dueNoSuch(call, () -> gun.deed(i, what));
        } else {
            Check.due(call, gun.deed(i, what), want);
        }
    }

    /** Mostly within the bounds, now and then at them, outside, or far outside. */
    private static int number(int least, int most) {
        switch (random.nextInt(24)) {
            case 0:
                return least - 1;
            case 1:
                return most + 1;
            case 2:
                return random.nextInt();
            case 3:
                return random.nextBoolean() ? Integer.MIN_VALUE : Integer.MAX_VALUE;
            case 4:
                return least;
            case 5:
                return most;
            default:
                return least + random.nextInt(most - least + 1);
        }
    }

    private static char oneOf(String signs) {
        return signs.charAt(random.nextInt(signs.length()));
    }

    private static void tell(NoonGun gun, Model model, String signs, String at) {
        for (int p = 0; p < signs.length(); p += 4) {
            int v = 0;
            for (int i = 0; i < 4; i++) {
                v = v << 8 | (p + i < signs.length() ? signs.charAt(p + i) : 0);
            }
            Check.due(at + ", sign", gun.sign(v), model.sign(v));
        }
        spent += (signs.length() + 3) / 4 + 1;
        int cut = random.nextInt(30) == 0 ? number(0, 80) : signs.length();
        Check.due(at + ", end", gun.end(cut), model.end(cut));
    }

    /** A text as it should be, most times; else with a sign put elsewhere, cut, or too long. */
    private static String spoilt(String signs) {
        StringBuilder text = new StringBuilder(signs);
        int how = random.nextInt(12);
        if (how == 0 && text.length() > 0) {
            text.setCharAt(random.nextInt(text.length()), oneOf(ANY_SIGNS));
        } else if (how == 1) {
            text.insert(random.nextInt(text.length() + 1), oneOf(ANY_SIGNS));
        } else if (how == 2) {
            text.setLength(random.nextInt(text.length() + 1));
        } else if (how == 3 && text.length() > 0) {
            text.deleteCharAt(random.nextInt(text.length()));
        }
        return text.substring(0, Math.min(80, text.length()));
    }

    private static String houses() {
        StringBuilder text = new StringBuilder();
        for (int n = random.nextInt(random.nextInt(8) == 0 ? 11 : 4); n >= 0; n--) {
            text.append(random.nextInt(10)).append(random.nextInt(10)).append(n > 0 ? ";" : "");
        }
        return text.toString();
    }

    private static String deeds(int houses) {
        StringBuilder text = new StringBuilder();
        for (int n = random.nextInt(random.nextInt(8) == 0 ? 13 : 4); n >= 0; n--) {
            text.append(random.nextInt(Math.max(1, houses))).append(1 + random.nextInt(9));
            int lanes = 1 + random.nextInt(15);
            for (int lane = 0; lane < 4; lane++) {
                text.append((lanes >> lane & 1) == 1 ? "abcd".substring(lane, lane + 1) : "");
            }
            text.append(n > 0 ? ";" : "");
        }
        return text.toString();
    }

    private static String digits() {
        StringBuilder text = new StringBuilder();
        for (int n = random.nextInt(23); n > 0; n--) {
            text.append(random.nextInt(10));
        }
        return text.toString();
    }

    private static String expression(int deep) {
        switch (random.nextInt(deep > 3 ? 2 : 7)) {
            case 0:
                return String.valueOf(oneOf("dwmxyne"));
            case 1:
                return String.valueOf(random.nextInt(random.nextBoolean() ? 10 : 1000));
            case 2:
                return "(" + expression(deep + 1) + ")";
            case 3:
                return "-" + expression(deep + 1);
            case 4:
                return expression(deep + 1) + oneOf("<>=") + expression(deep + 1);
            default:
                return expression(deep + 1) + oneOf("+-*/") + expression(deep + 1);
        }
    }

    private static String rule() {
        int how = random.nextInt(8);
        if (how == 0) {
            StringBuilder text = new StringBuilder();
            for (int n = random.nextInt(12); n > 0; n--) {
                text.append(oneOf(RULE_SIGNS));
            }
            return text.toString();
        }
        return how < 4 ? RULES[random.nextInt(RULES.length)] : expression(0);
    }

    private static String week() {
        StringBuilder text = new StringBuilder();
        for (int n = random.nextInt(random.nextInt(6) == 0 ? 30 : 7); n > 0; n--) {
            char act = oneOf("nnbgml");
            text.append(act);
            int digits = act == 'm' ? 3 : act == 'g' || act == 'l' ? 2 : 1;
            for (int i = 0; i < digits; i++) {
                boolean notZero = act == 'b' || act == 'l' && i == 1;
                boolean small = digits > 1 && i == 0 && act != 'g';
                text.append(notZero ? 1 + random.nextInt(9) : random.nextInt(small ? 4 : 10));
            }
        }
        return text.toString();
    }

    private static void call(NoonGun g, Model m, int kind, String at) {
        if (kind < 10) {
            callOfTexts(g, m, kind, at);
        } else if (kind < 20) {
            callOfDays(g, m, kind, at);
        } else if (kind < 35) {
            callOfQuestions(g, m, kind, at);
        } else {
            callOfTheRest(g, m, kind, at);
        }
    }

    private static void callOfTexts(NoonGun g, Model m, int kind, String at) {
        if (kind > 1 && kind < 8) {
            m.text = "";
            g.end(0);
        }
        switch (kind) {
            case 0: {
                int v = random.nextInt();
                Check.due(at, g.sign(v), m.sign(v));
                break;
            }
            case 1: {
                int n = number(0, 80);
                Check.due(at, g.end(n), m.end(n));
                break;
            }
            case 2:
                tell(g, m, random.nextInt(m.count(2) == 0 ? 1 : 4) == 0 ? spoilt(houses()) : "", at);
                Check.due(at, g.houses(), m.houses());
                break;
            case 3:
                tell(g, m, random.nextInt(m.count(2) == 0 ? 1 : 4) == 0 ? spoilt(deeds(m.count(0))) : "", at);
                Check.due(at, g.deeds(), m.deeds());
                break;
            case 4:
                tell(g, m, spoilt(digits()), at);
                Check.due(at, g.winds(), m.winds());
                break;
            case 5:
                tell(g, m, spoilt(digits()), at);
                Check.due(at, g.damps(), m.damps());
                break;
            case 6:
                tell(g, m, spoilt(rule()), at);
                Check.due(at, g.rule(), m.rule());
                break;
            case 7:
                tell(g, m, spoilt(rule()), at);
                Check.due(at, g.law(), m.law());
                break;
            case 8: {
                int[] v = {number(0, 3), number(0, 8), random.nextInt(12), number(-1, 3)};
                Check.due(at + Arrays.toString(v), g.sheet(v[0], v[1], v[2], v[3]), m.sheet(v[0], v[1], v[2], v[3]));
                break;
            }
            default:
                sameHouse(g, m, number(0, 7), number(0, 5), at);
                sameDeed(g, m, number(0, 7), number(0, 4), at);
        }
    }

    private static void callOfDays(NoonGun g, Model m, int kind, String at) {
        int a = number(0, 9);
        int b = number(0, 9);
        int c = number(0, 7);
        switch (kind) {
            case 10: {
                int n = random.nextBoolean() ? number(0, 60) : random.nextInt(3);
                Check.due(at, g.days(n), m.days(n));
                break;
            }
            case 11: {
                int n = number(1, 99);
                Check.due(at, g.buys(n), m.buys(n));
                break;
            }
            case 12:
                Check.due(at, g.hauls(a, b), m.hauls(a, b));
                break;
            case 13:
                Check.due(at, g.moves(c, a, b), m.moves(c, a, b));
                break;
            case 14:
                Check.due(at, g.takes(c, a), m.takes(c, a));
                break;
            case 15:
                Check.due(at, g.hill(a, b), m.hill(a, b));
                break;
            case 16:
                m.text = "";
                g.end(0);
                tell(g, m, spoilt(week()), at);
                Check.due(at, g.week(), m.week());
                break;
            case 17:
            case 18:
                Check.due(at, g.undo(), m.undo());
                break;
            default: {
                int n = 1 + random.nextInt(9);
                Check.due(at, g.buys(n), m.buys(n));
            }
        }
    }

    private static void callOfQuestions(NoonGun g, Model m, int kind, String at) {
        int v = number(0, kind == 24 ? 99 : kind == 23 ? 3 : 7);
        switch (kind) {
            case 20:
                Check.due(at, g.order(), m.order());
                break;
            case 21:
                Check.due(at, g.clashes(), m.clashes());
                break;
            case 22:
                Check.due(at, g.span(), m.span());
                break;
            case 23:
                Check.due(at, g.lane(v), m.lane(v));
                break;
            case 24:
                Check.due(at, g.ahead(v), m.ahead(v));
                break;
            case 25:
                Check.due(at, g.quiet(), m.quiet());
                break;
            case 26:
                Check.due(at, g.lasts(), m.lasts());
                break;
            case 27:
                Check.due(at, g.fewest(), m.fewest());
                break;
            case 28:
                Check.due(at, g.longest(), m.longest());
                break;
            case 29:
                Check.due(at, g.best(), m.best());
                break;
            case 30:
                Check.due(at, g.middle(), m.middle());
                break;
            case 31:
                Check.due(at, g.holds(v), m.holds(v));
                break;
            case 32:
                Check.due(at, g.hands(), m.hands());
                break;
            case 33:
                Check.due(at, g.echo(v), m.echo(v));
                break;
            default:
                Check.due(at, g.together(), m.together());
        }
    }

    private static void callOfTheRest(NoonGun g, Model m, int kind, String at) {
        int a = number(0, 7);
        switch (kind) {
            case 35:
            case 36: {
                // What it hears now, most times: else nothing would ever fit.
                Integer hears = m.house(a, 3);
                int v = hears == null || random.nextInt(4) == 0 ? number(0, 199) : hears;
                Check.due(at, g.heard(a, v), m.heard(a, v));
                break;
            }
            case 37:
                Check.due(at, g.forget(), m.forget());
                break;
            case 38:
            case 39:
                Check.due(at, g.fits(), m.fits());
                break;
            case 40:
            case 41:
                Check.due(at, g.asks(), m.asks());
                break;
            case 42: {
                int v = number(0, 18);
                Check.due(at, g.menders(v), m.menders(v));
                break;
            }
            case 43:
                Check.due(at, g.apart(), m.apart());
                break;
            case 44: {
                int[] v = {number(1, 15), number(1, 15), number(0, 10)};
                Check.due(at + Arrays.toString(v), g.misfires(v[0], v[1], v[2]), m.misfires(v[0], v[1], v[2]));
                break;
            }
            case 45:
            case 46: {
                int[] v = {number(0, 20), number(0, 20)};
                Check.due(at + Arrays.toString(v), g.forts(v[0], v[1]), m.forts(v[0], v[1]));
                break;
            }
            case 47: {
                int v = number(0, 20);
                Check.due(at, g.rests(v), m.rests(v));
                break;
            }
            case 48: {
                int seed = random.nextInt();
                int n = number(1, 60);
                Check.due(at, g.years(seed, n), m.years(seed, n));
                break;
            }
            case 49: {
                int i = number(0, 2);
                Check.due(at, g.keep(i), m.keep(i));
                break;
            }
            case 50: {
                int i = number(0, 2);
                Check.due(at, g.again(i), m.again(i));
                break;
            }
            default: {
                int i = number(0, 9);
                if (i >= 0 && i < m.row.length) {
                    Check.due(at, g.row(i), m.row[i]);
                } else {
                    Check.dueNoSuch(at, () -> g.row(i));
                }
            }
        }
    }
}

/** What the tests of the project share: telling texts, comparing answers, the exit code. */
final class Check {
    /** A call that answers a number or throws. */
    interface Call {
        long make();
    }

    private static int wrong = 0;
    private static int made = 0;
    /** Which test is on: it stands ahead of what is printed. */
    private static String within = "";

    private Check() {
    }

    static void within(String test) {
        within = test.isEmpty() ? "" : test + ": ";
    }

    private static void tellWrong(String what) {
        wrong++;
        System.out.println(within + what);
    }

    static void due(String what, long got, long want) {
        made++;
        if (got != want) {
            tellWrong(what + " answered " + got + ", due is " + want);
        }
    }

    static void due(String what, String got, String want) {
        made++;
        if (!got.equals(want)) {
            tellWrong(what + " is\n  " + got + "\ndue is\n  " + want);
        }
    }

    static void due(String what, boolean got, boolean want) {
        due(what, got ? 1 : 0, want ? 1 : 0);
    }

    static void dueNoSuch(String what, Call call) {
        made++;
        try {
            long got = call.make();
            tellWrong(what + " answered " + got + ", due is NoSuchElementException");
        } catch (java.util.NoSuchElementException e) {
            if (e.getClass() != java.util.NoSuchElementException.class) {
                tellWrong(what + " threw " + e);
            }
        }
    }

    static void dueRow(String what, NoonGun gun, long... numbers) {
        due(what + ", numbers of the row", gun.count(12), numbers.length);
        for (int i = 0; i < numbers.length && i < gun.count(12); i++) {
            due(what + ", row " + i, gun.row(i), numbers[i]);
        }
        dueNoSuch(what + ", row behind its end", () -> gun.row(numbers.length));
        dueNoSuch(what + ", row ahead of it", () -> gun.row(-1));
    }

    /** Puts signs behind THE TEXT, which may hold some already. */
    static void text(NoonGun gun, String signs) {
        int length = gun.count(13) + signs.length();
        for (int p = 0; p < signs.length(); p += 4) {
            int v = 0;
            for (int i = p; i < p + 4; i++) {
                v = v << 8 | (i < signs.length() ? signs.charAt(i) : 0);
            }
            gun.sign(v);
        }
        gun.end(length);
    }

    static int houses(NoonGun gun, String signs) {
        text(gun, signs);
        return gun.houses();
    }

    static int deeds(NoonGun gun, String signs) {
        text(gun, signs);
        return gun.deeds();
    }

    static int winds(NoonGun gun, String signs) {
        text(gun, signs);
        return gun.winds();
    }

    static int damps(NoonGun gun, String signs) {
        text(gun, signs);
        return gun.damps();
    }

    static int rule(NoonGun gun, String signs) {
        text(gun, signs);
        return gun.rule();
    }

    static int week(NoonGun gun, String signs) {
        text(gun, signs);
        return gun.week();
    }

    static int law(NoonGun gun, String signs) {
        text(gun, signs);
        return gun.law();
    }

    static NoonGun town(String houses, String deeds) {
        NoonGun gun = new NoonGun();
        due("houses " + houses, houses(gun, houses) >= 0, true);
        due("deeds " + deeds, deeds(gun, deeds) >= 0, true);
        return gun;
    }

    static NoonGun town(String houses, String deeds, String rule) {
        NoonGun gun = town(houses, deeds);
        due("rule " + rule, rule(gun, rule), 0);
        return gun;
    }

    /** No HOUSES, no DEEDS, but a ROW of two numbers. */
    static NoonGun dayOldTown() {
        NoonGun gun = new NoonGun();
        gun.days(1);
        return gun;
    }

    /** One HOUSE with eight DEEDS, of which all pairs, 28, CLASH on each DAY. */
    static NoonGun crowd() {
        return town("00", "09a;09a;09a;09a;09a;09a;09a;09a");
    }

    /** Three HOUSES that hear the gun at 2, 4, 20; DEEDS on 2-4, 4-5, 20-24, 20-23; 0 and 1 clash. */
    static NoonGun smallTown() {
        return town("10;02;55", "03a;12ab;25b;24c");
    }

    static void end() {
        System.out.println(made + " answers looked at, " + wrong + " wrong");
        if (wrong != 0) {
            System.exit(1);
        }
    }
}

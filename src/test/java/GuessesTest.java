/** Promises 35 to 49: when it went, watches, misfires, games, laws, years, what is kept. */
public final class GuessesTest {
    public static void main(String[] args) {
        heardAndForget();
        fits();
        asks();
        menders();
        apart();
        misfires();
        forts();
        law();
        rests();
        years();
        keepAndAgain();
        count();
        row();
        Check.end();
    }

    private static void heardAndForget() {
        NoonGun gun = Check.smallTown();
        Check.due("35: -1", gun.heard(-1, 0), -1);
        Check.due("35: 3", gun.heard(3, 0), -1);
        Check.due("35: minute -1", gun.heard(0, -1), -1);
        Check.due("35: minute 200", gun.heard(0, 200), -1);
        Check.due("36: none", gun.forget(), 0);
        for (int i = 1; i <= 10; i++) {
            Check.due("35: heard", gun.heard(2, 199), i);
        }
        Check.due("35: an eleventh", gun.heard(2, 199), -1);
        Check.due("35: ten", gun.count(10), 10);
        Check.due("36: ten", gun.forget(), 10);
        Check.due("36: forgotten", gun.count(10), 0);
        Check.due("35: anew", gun.heard(0, 0), 1);
        gun.days(1);
        gun.undo();
        Check.due("35: undo() leaves it", gun.count(10), 1);
    }

    private static void fits() {
        NoonGun gun = Check.smallTown();
        Check.due("37: nothing heard", gun.fits(), 100);
        Check.dueRow("37: nothing heard", gun, 0, 0);
        // 20 less w/2 and DAMP: 3 and 20, 4 and 19, .. 7 and 16, by two WINDS each.
        gun.heard(2, 23);
        Check.due("37: by the far one", gun.fits(), 2 * 5);
        Check.dueRow("37: by the far one", gun, 3, 0);
        gun.heard(0, 3);
        // By these the near one hears it at 5, 5, 5, 6, 7.
        Check.due("37: by both", gun.fits(), 0);
        Check.dueRow("37: by both", gun);
        gun.forget();
        gun.heard(2, 23);
        gun.heard(0, 6);
        Check.due("37: damp 6, wind 6 or 7", gun.fits(), 2);
        Check.dueRow("37: damp 6, wind 6 or 7", gun, 6, 6);
        gun.hauls(5, 5);
        Check.due("37: as it is when asked", gun.fits(), 0);
        gun.undo();
        Check.rule(gun, "m*9");
        gun.forget();
        gun.heard(1, 70);
        Check.due("37: by a rule of damp", gun.fits(), 10);
        Check.dueRow("37: by a rule of damp", gun, 7, 0);
        Check.rule(gun, "d+e*9");
        gun.forget();
        gun.heard(2, 10);
        Check.due("37: it is no echo", gun.fits(), 10);
        Check.dueRow("37: it is no echo", gun, 0, 0);
    }

    private static void asks() {
        NoonGun gun = Check.smallTown();
        Check.due("38: no houses", new NoonGun().asks(), -2);
        gun.heard(0, 2);
        Check.due("38: the second", gun.asks(), 1);
        Check.dueRow("38: the second", gun, 6);
        gun.heard(0, 150);
        Check.due("38: none fits", gun.asks(), -2);
        Check.dueRow("38: the row stays", gun, 6);
        gun.forget();
        Check.rule(gun, "m*10+w");
        Check.due("38: any", gun.asks(), 0);
        // DAMP * 11 and WIND: each pair has its own minute.
        Check.dueRow("38: any", gun, 1);
        Check.rule(gun, "9-m");
        Check.due("38: nothing is told by any", gun.asks(), 0);
        Check.dueRow("38: nothing is told by any", gun, 100);
        Check.rule(gun, "x*w");
        Check.due("38: the one that tells the wind", gun.asks(), 2);
    }

    private static void menders() {
        NoonGun gun = Check.smallTown();
        Check.due("39: -1", gun.menders(-1), -1);
        Check.due("39: 19", gun.menders(19), -1);
        Check.due("39: 3", gun.menders(3), 2);
        Check.dueRow("39: 3", gun, 5);
        Check.due("39: 18", gun.menders(18), 1);
        Check.dueRow("39: 18", gun, 1);
        Check.due("39: 0", gun.menders(0), 3);
        Check.dueRow("39: 0", gun, 7);
        gun = Check.town("00;05;09;50;55;59;59", "");
        Check.due("39: the least of several", gun.menders(5), 2);
        Check.dueRow("39: the least of several", gun, 4 + 8);
        Check.due("39: two on one place", gun.menders(0), 6);
        Check.dueRow("39: two on one place", gun, 63);
        gun = new NoonGun();
        Check.due("39: no houses", gun.menders(0), 0);
        Check.dueRow("39: no houses", gun, 0);
    }

    private static void apart() {
        NoonGun gun = Check.town("10;02;55;01", "");
        Check.due("40: all alike", gun.apart(), 0);
        Check.dueRow("40: all alike", gun, 0, 1);
        gun.days(1);
        Check.due("40: the least row", gun.apart(), 18);
        Check.dueRow("40: the least row", gun, 0, 2);
        gun.hauls(5, 5);
        Check.due("40: as the watches are", gun.apart(), 18);
        gun.days(1);
        Check.due("40: as they are set anew", gun.apart(), 18);
        Check.due("40: one", Check.town("00", "").apart(), -2);
        Check.due("40: none", new NoonGun().apart(), -2);
    }

    private static void misfires() {
        NoonGun gun = new NoonGun();
        int[][] refused = {{0, 1, 1}, {16, 1, 1}, {1, 0, 1}, {1, 16, 1}, {1, 1, -1}, {1, 1, 11}};
        for (int[] of : refused) {
            Check.due("41: refused", gun.misfires(of[0], of[1], of[2]), -1);
        }
        long[][] told = {
            {2, 1, 5, 1, 4}, {2, 2, 5, 3, 4}, {1, 2, 5, 1, 1}, {3, 2, 5, 5, 8}, {3, 1, 10, 0, 1},
            {15, 15, 10, 0, 1}, {14, 15, 10, 1, 1}, {15, 1, 0, 1, 1}, {3, 3, 1, 999, 1000},
            {15, 15, 1, 999999999999999L, 1000000000000000L}, {15, 1, 3, 4747561509943L, 1000000000000000L},
            {15, 2, 5, 1597, 32768}, {4, 2, 2, 112, 125},
        };
        for (long[] of : told) {
            Check.due("41: answers", gun.misfires((int) of[0], (int) of[1], (int) of[2]), 0);
            Check.dueRow("41: " + of[0] + " " + of[1] + " " + of[2], gun, of[3], of[4]);
        }
    }

    private static void forts() {
        NoonGun gun = new NoonGun();
        int[][] refused = {{-1, 0}, {0, -1}, {21, 0}, {0, 21}};
        for (int[] of : refused) {
            Check.due("42: refused", gun.forts(of[0], of[1]), -1);
        }
        gun.days(0);
        Check.due("42: none", gun.forts(0, 0), -2);
        Check.dueRow("42: the row stays", gun, 0, 0);
        int[][] lost = {{1, 0}, {0, 1}, {2, 2}};
        for (int[] of : lost) {
            Check.due("42: lost", gun.forts(of[0], of[1]), 0);
            Check.dueRow("42: lost", gun);
        }
        int[][] won = {
            {1, 1, 0, 1}, {2, 0, 1, 0}, {0, 2, 0, 1}, {20, 0, 19, 0}, {0, 20, 0, 19}, {2, 1, 1, 1},
            {1, 2, 0, 2}, {3, 3, 1, 1}, {2, 20, 0, 18}, {20, 2, 18, 0}, {3, 2, 1, 0}, {2, 3, 0, 1},
        };
        for (int[] of : won) {
            Check.due("42: won " + of[0] + " " + of[1], gun.forts(of[0], of[1]), 1);
            Check.dueRow("42: won " + of[0] + " " + of[1], gun, of[2], of[3]);
        }
    }

    private static void law() {
        NoonGun gun = Check.smallTown();
        Check.due("43: all at once", Check.law(gun, "5"), 1);
        Check.dueRow("43: all at once", gun, 2, 1, 5, 5, 5);
        Check.due("43: refused", Check.law(gun, "5+"), -10002);
        Check.due("43: at its first sign", Check.law(gun, "z"), -10000);
        Check.due("43: too long", Check.law(gun, "d+d+d+d+d+d+d+d+d+d+d+d+d+d+d+d+d+d+d+d+1"), -10040);
        Check.due("43: the text is emptied", gun.count(13), 0);
        Check.due("43: the rule stays", gun.house(2, 3), 20);
        Check.due("43: fewer", Check.law(gun, "d*9"), -1);
        Check.dueRow("43: fewer", gun, 0, 1, 9, 18, 90);
        Check.rule(gun, "d*9");
        Check.due("43: by none, more", Check.law(gun, ""), 1);
        Check.dueRow("43: by none, more", gun, 1, 0, 2, 4, 20);
        Check.due("43: the rule stays so", gun.house(2, 3), 90);
        gun.days(60);
        Check.due("43: without powder, too", Check.law(gun, ""), 1);
        Check.due("43: no undo of it", gun.count(11), 1);
    }

    private static void rests() {
        NoonGun gun = new NoonGun();
        gun.days(0);
        Check.due("44: -1", gun.rests(-1), -1);
        Check.due("44: 21", gun.rests(21), -1);
        Check.due("44: 0", gun.rests(0), 3);
        Check.dueRow("44: 0", gun, 0, 0);
        // v is had by as many or fewer: so it is paid for all the same by either, and v tells nothing.
        Check.due("44: 20", gun.rests(20), 3);
        Check.dueRow("44: 20", gun, 0, 0);
    }

    private static void years() {
        NoonGun gun = Check.smallTown();
        Check.due("45: 0", gun.years(1, 0), -1);
        Check.due("45: 61", gun.years(1, 61), -1);
        NoonGun like = Check.smallTown();
        int drawn = 77;
        int pairs = 0;
        for (int i = 0; i < 40; i++) {
            int[] draws = new int[4];
            int before = drawn;
            for (int k = 0; k < 4; k++) {
                drawn = drawn * 1103515245 + 12345;
                draws[k] = drawn >>> 16;
            }
            int used = 1;
            if (draws[0] % 4 < 2) {
                like.days(1);
                pairs += like.row(0);
            } else if (draws[0] % 4 == 2) {
                like.hauls(draws[1] % 10, draws[2] % 10);
                used = 3;
            } else {
                like.moves(draws[1] % 3, draws[2] % 10, draws[3] % 10);
                used = 4;
            }
            drawn = before;
            for (int k = 0; k < used; k++) {
                drawn = drawn * 1103515245 + 12345;
            }
        }
        Check.due("45: forty by seed 77", gun.years(77, 40), pairs);
        Check.dueRow("45: forty by seed 77", gun, like.count(3), like.count(5));
        Check.due("45: likewise once more", gun.years(77, 40), pairs);
        Check.dueRow("45: likewise once more", gun, like.count(3), like.count(5));
        gun = new NoonGun();
        Check.due("45: without houses", gun.years(-5, 60), 0);
        Check.due("45: powder or mute", gun.row(0) == 0 || gun.row(1) == 0, true);
        Check.due("45: without houses, days", gun.row(1) + 20 - gun.row(0), daysWithoutHouses(-5, 60));
        Check.due("45: then lasts", gun.lasts(), 20);
    }

    /** Without HOUSES a 3 draws nothing more. */
    private static int daysWithoutHouses(int seed, int n) {
        int drawn = seed;
        int days = 0;
        for (int i = 0; i < n; i++) {
            drawn = drawn * 1103515245 + 12345;
            int what = (drawn >>> 16) % 4;
            days += what < 2 ? 1 : 0;
            for (int k = 0; what == 2 && k < 2; k++) {
                drawn = drawn * 1103515245 + 12345;
            }
        }
        return days;
    }

    private static void keepAndAgain() {
        NoonGun gun = Check.smallTown();
        Check.due("46: -1", gun.keep(-1), false);
        Check.due("46: 3", gun.keep(3), false);
        Check.due("47: -1", gun.again(-1), false);
        Check.due("47: 3", gun.again(3), false);
        Check.due("47: nothing kept", gun.again(0), false);
        Check.due("46: 0", gun.keep(0), true);
        Check.week(gun, "n9n9n9b9g77m033l19");
        gun.hill(1, 1);
        Check.due("46: 2", gun.keep(2), true);
        Check.due("47: nothing kept under 1", gun.again(1), false);
        Check.due("47: 0", gun.again(0), true);
        Check.due("47: powder", gun.count(3), 20);
        Check.due("47: day, clashes, mute", gun.count(2) + gun.count(4) + gun.count(5), 0);
        Check.due("47: gun", gun.count(6), 0);
        Check.due("47: house", gun.house(0, 0), 1);
        Check.due("47: watch", gun.house(2, 2), 0);
        Check.due("47: length", gun.deed(1, 1), 2);
        Check.due("47: hill", gun.house(0, 4), 70);
        Check.due("47: 2", gun.again(2), true);
        Check.due("47: day then", gun.count(2), 27);
        Check.due("47: mute then", gun.count(5), 7);
        Check.due("47: 0, again", gun.again(0), true);
        Check.houses(gun, "");
        Check.houses(gun, "1");
        Check.due("47: no houses came", gun.again(0), true);
        Check.deeds(gun, "01d");
        Check.due("47: deeds came since", gun.again(0), false);
        gun.keep(0);
        Check.due("47: 0 is kept anew", gun.again(0), true);
        Check.due("47: 2 is not", gun.again(2), false);
        Check.houses(gun, "44");
        Check.due("47: houses came since", gun.again(0), false);
    }

    private static void count() {
        NoonGun gun = Check.smallTown();
        Check.winds(gun, "3");
        Check.damps(gun, "4");
        Check.week(gun, "n9n9n9g25");
        gun.heard(0, 1);
        gun.order();
        Check.text(gun, "abcde");
        int[] counts = {3, 4, 27, 0, 20, 7, 2, 5, 3, 4, 1, 1, 4, 5};
        for (int what = 0; what < counts.length; what++) {
            Check.due("48: " + what, gun.count(what), counts[what]);
        }
        Check.due("48: 14", gun.count(14), -100);
        Check.due("48: -1", gun.count(-1), -100);
    }

    private static void row() {
        NoonGun gun = new NoonGun();
        Check.dueRow("49: at first", gun);
        gun.misfires(15, 15, 1);
        Check.due("49: a long", gun.row(0), 999999999999999L);
        Check.dueNoSuch("49: 2", () -> gun.row(2));
        Check.dueNoSuch("49: lowest", () -> gun.row(Integer.MIN_VALUE));
        gun.buys(1);
        gun.hauls(1, 1);
        gun.undo();
        Check.dueRow("49: calls that tell none leave it", gun, 999999999999999L, 1000000000000000L);
    }
}

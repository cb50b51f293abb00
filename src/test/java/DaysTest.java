/** Promises 12 to 19: days, acts, weeks, and how they are undone. */
public final class DaysTest {
    public static void main(String[] args) {
        days();
        daysAreBounded();
        buys();
        hauls();
        moves();
        takes();
        hill();
        weekMisfits();
        week();
        undo();
        undoBringsAllBack();
        undoIsForgotten();
        Check.end();
    }

    private static void days() {
        NoonGun gun = Check.smallTown();
        Check.due("12: 61", gun.days(61), -1);
        Check.due("12: -1", gun.days(-1), -1);
        Check.due("12: refused, no row", gun.count(12), 0);
        Check.due("12: three", gun.days(3), 17);
        Check.dueRow("12: three", gun, 3, 0);
        Check.due("12: clashes", gun.count(4), 3);
        Check.due("12: day", gun.count(2), 3);
        Check.due("12: watch", gun.house(2, 2), 20);
        Check.due("12: none", gun.days(0), 17);
        Check.dueRow("12: none", gun, 0, 0);
        Check.due("12: sixty", gun.days(60), 0);
        Check.dueRow("12: sixty", gun, 17, 43);
        Check.due("12: mute", gun.count(5), 43);
        Check.due("12: clashes then", gun.count(4), 20);
        Check.due("12: day then", gun.count(2), 63);
        gun.hauls(5, 5);
        gun.days(1);
        Check.due("12: no watch is set without powder", gun.house(2, 2), 20);
        gun.buys(1);
        Check.damps(gun, "6");
        gun.days(1);
        Check.due("12: a watch is set", gun.house(2, 2), 6);
    }

    private static void daysAreBounded() {
        NoonGun gun = Check.town("00", "09a;09a;09a;09a;09a;09a;09a;09a");
        for (int i = 0; i < 4; i++) {
            gun.buys(99 - gun.count(3));
            gun.days(60);
            gun.days(39);
        }
        Check.due("12: clashes are 9999 at most", gun.count(4), 9999);
        gun.buys(2);
        Check.due("12: powder is used", gun.days(2), 0);
        Check.dueRow("12: clashes aside", gun, 56, 0);
        for (int i = 0; i < 16; i++) {
            gun.days(60);
        }
        Check.due("12: mute", gun.count(5), 960);
        gun.days(60);
        Check.due("12: mute is 999 at most", gun.count(5), 999);
        Check.dueRow("12: mute days told all", gun, 0, 60);
        Check.due("12: day", gun.count(2), 4 * 99 + 2 + 17 * 60);
    }

    private static void buys() {
        NoonGun gun = new NoonGun();
        Check.due("13: 0", gun.buys(0), -1);
        Check.due("13: 100", gun.buys(100), -1);
        Check.due("13: lowest", gun.buys(Integer.MIN_VALUE), -1);
        Check.due("13: too much", gun.buys(80), -3);
        Check.due("13: just so much", gun.buys(79), 99);
        Check.due("13: full", gun.buys(1), -3);
        Check.due("13: no row", gun.count(12), 0);
        Check.due("13: one is done", gun.count(11), 1);
    }

    private static void hauls() {
        NoonGun gun = Check.smallTown();
        Check.due("14: it is there", gun.hauls(0, 0), -2);
        Check.due("14: x 10", gun.hauls(10, 0), -1);
        Check.due("14: y 10", gun.hauls(0, 10), -1);
        Check.due("14: x -1", gun.hauls(-1, 0), -1);
        Check.due("14: y -1", gun.hauls(0, -1), -1);
        Check.due("14: to 9, 3", gun.hauls(9, 3), 12);
        Check.due("14: x", gun.count(6), 9);
        Check.due("14: y", gun.count(7), 3);
        Check.due("14: is heard from there", gun.house(2, 3), 12);
        Check.due("14: back", gun.hauls(4, 4), 6);
        Check.due("14: two are done", gun.count(11), 2);
    }

    private static void moves() {
        NoonGun gun = Check.smallTown();
        Check.due("15: no such", gun.moves(3, 0, 0), -1);
        Check.due("15: -1", gun.moves(-1, 0, 0), -1);
        Check.due("15: x 10", gun.moves(0, 10, 0), -1);
        Check.due("15: y -1", gun.moves(0, 0, -1), -1);
        Check.due("15: it is there", gun.moves(0, 1, 0), -2);
        Check.due("15: to 9, 9", gun.moves(0, 9, 9), 17);
        Check.due("15: x", gun.house(0, 0), 9);
        Check.due("15: y", gun.house(0, 1), 9);
        Check.due("15: where another one is", gun.moves(0, 5, 5), 8);
        Check.due("15: two are done", gun.count(11), 2);
    }

    private static void takes() {
        NoonGun gun = Check.smallTown();
        Check.due("16: no such", gun.takes(4, 1), -1);
        Check.due("16: -1", gun.takes(-1, 1), -1);
        Check.due("16: 0", gun.takes(0, 0), -1);
        Check.due("16: 10", gun.takes(0, 10), -1);
        Check.due("16: it is so", gun.takes(0, 3), -2);
        Check.due("16: 9", gun.takes(0, 9), 3);
        Check.due("16: length", gun.deed(0, 1), 9);
        Check.due("16: what it was", gun.takes(0, 1), 9);
        Check.due("16: two are done", gun.count(11), 2);
    }

    private static void hill() {
        NoonGun gun = Check.smallTown();
        Check.due("17: x 10", gun.hill(10, 0), -1);
        Check.due("17: y -1", gun.hill(0, -1), -1);
        Check.due("17: from 9, 9", gun.hill(7, 6), 5);
        Check.due("17: where it is", gun.hill(7, 6), 0);
        Check.due("17: two are done", gun.count(11), 2);
        gun.hill(1, 0);
        Check.due("17: echo from there", gun.house(0, 4), 2);
    }

    private static void weekMisfits() {
        NoonGun gun = Check.smallTown();
        StringBuilder sixty = new StringBuilder();
        for (int i = 0; i < 30; i++) {
            sixty.append("n0");
        }
        Object[][] texts = {
            {"x", -1}, {"n", -2}, {"nx", -2}, {"b0", -2}, {"b", -2}, {"g", -2}, {"g1", -3}, {"g1x", -3},
            {"m12", -4}, {"m1x", -3}, {"l10", -3}, {"l0", -3}, {"lx1", -2}, {"n1;n1", -3}, {"n12", -3},
            {"N1", -1}, {"b1l", -4}, {sixty + "n", -61}, {sixty + "\u0000", -61},
            {sixty.substring(0, 58) + "m1234", -61}, {sixty.substring(0, 58) + "m1", -61},
            {"n1" + sixty.substring(0, 58) + "q", -61}, {"n1g1" + sixty, -5},
        };
        for (Object[] text : texts) {
            Check.due("18: week " + text[0], Check.week(gun, (String) text[0]), (Integer) text[1]);
            Check.due("18: the text is emptied", gun.count(13), 0);
        }
        Check.due("18: nothing is done", gun.count(2) + gun.count(11) + gun.count(12), 0);
        Check.due("18: sixty signs", Check.week(gun, sixty.toString()), 30);
    }

    private static void week() {
        NoonGun gun = Check.smallTown();
        Check.due("18: empty", Check.week(gun, ""), 0);
        Check.dueRow("18: empty", gun, 0, 0);
        Check.due("18: empty is not kept", gun.count(11), 0);
        Check.due("18: all five", Check.week(gun, "n2b9g34m298l05"), 5);
        Check.dueRow("18: all five", gun, 0, 2);
        Check.due("18: powder", gun.count(3), 27);
        Check.due("18: gun x", gun.count(6), 3);
        Check.due("18: gun y", gun.count(7), 4);
        Check.due("18: house x", gun.house(2, 0), 9);
        Check.due("18: house y", gun.house(2, 1), 8);
        Check.due("18: length", gun.deed(0, 1), 5);
        Check.due("18: is kept as one", gun.count(11), 1);
        Check.due("18: refused at last", Check.week(gun, "n1l05n1"), 1);
        Check.due("18: that one is said", gun.row(0), 1);
        Check.due("18: the day went by", gun.count(2), 3);
        Check.due("18: is kept", gun.count(11), 2);
        Check.due("18: refused at first", Check.week(gun, "g34n9"), 0);
        Check.due("18: refused", gun.row(0), 1);
        Check.due("18: is not kept", gun.count(11), 2);
        Check.due("18: no such house", Check.week(gun, "b1m811"), 1);
        Check.due("18: no such deed", Check.week(gun, "n0l91"), 1);
        gun.buys(99 - gun.count(3));
        Check.due("18: too much powder", Check.week(gun, "b1"), 0);
        Check.due("18: one of nine days and one of none", Check.week(gun, "n9n0"), 2);
    }

    private static void undo() {
        NoonGun gun = Check.smallTown();
        Check.due("19: nothing", gun.undo(), -1);
        gun.days(0);
        gun.hill(9, 9);
        Check.due("19: such as changed nothing count", gun.count(11), 2);
        gun.hauls(0, 0);
        gun.buys(0);
        gun.takes(0, 3);
        gun.moves(0, 1, 0);
        gun.days(61);
        gun.hill(10, 10);
        Check.due("19: such as were refused don't", gun.count(11), 2);
        Check.due("19: one is left", gun.undo(), 1);
        Check.due("19: none is left", gun.undo(), 0);
        Check.due("19: none", gun.undo(), -1);
        for (int i = 1; i <= 17; i++) {
            gun.buys(1);
        }
        Check.due("19: fifteen are kept", gun.count(11), 15);
        gun.buys(99);
        for (int left = 14; left >= 0; left--) {
            Check.due("19: left", gun.undo(), left);
            Check.due("19: powder", gun.count(3), 22 + left);
        }
        Check.due("19: no more", gun.undo(), -1);
        Check.due("19: the latest ones", gun.count(3), 22);
    }

    private static void undoBringsAllBack() {
        NoonGun gun = Check.smallTown();
        gun.days(1);
        Check.week(gun, "n9n9n9b9g77m033l19");
        gun.hill(2, 2);
        gun.sheet(2, 4, 7, 0);
        Check.due("19: two left", gun.undo(), 2);
        Check.due("19: lengths as ahead of it", gun.deed(2, 1), 5);
        Check.due("19: the hill as ahead of it", gun.house(0, 4) - gun.house(0, 3), 2 * (4 + 12 - 8));
        Check.due("19: one left", gun.undo(), 1);
        Check.due("19: day", gun.count(2), 1);
        Check.due("19: powder", gun.count(3), 19);
        Check.due("19: clashes", gun.count(4), 1);
        Check.due("19: mute", gun.count(5), 0);
        Check.due("19: gun x", gun.count(6), 0);
        Check.due("19: gun y", gun.count(7), 0);
        Check.due("19: house x", gun.house(0, 0), 1);
        Check.due("19: length", gun.deed(1, 1), 2);
        Check.due("19: watch", gun.house(2, 2), 20);
        Check.due("19: none left", gun.undo(), 0);
        Check.due("19: watch at first", gun.house(2, 2), 0);
        Check.due("19: clashes at first", gun.count(4), 0);
    }

    private static void undoIsForgotten() {
        NoonGun gun = Check.smallTown();
        gun.days(1);
        Check.houses(gun, "");
        Check.deeds(gun, "");
        Check.due("19: empty texts don't forget", gun.count(11), 1);
        Check.houses(gun, "1");
        Check.deeds(gun, "x");
        gun.again(0);
        Check.winds(gun, "12");
        Check.rule(gun, "d");
        Check.due("19: such as are refused don't forget", gun.count(11), 1);
        Check.houses(gun, "66");
        Check.due("19: houses() forgets", gun.count(11), 0);
        Check.due("19: nothing", gun.undo(), -1);
        gun.days(1);
        Check.deeds(gun, "31d");
        Check.due("19: deeds() forgets", gun.undo(), -1);
        gun.days(1);
        gun.keep(0);
        Check.due("19: keep() does not", gun.count(11), 1);
        gun.again(0);
        Check.due("19: again() forgets", gun.undo(), -1);
    }
}

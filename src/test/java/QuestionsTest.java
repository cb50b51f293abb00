/** Promises 20 to 34: who begins when, what is put off, where the gun should be, echoes. */
public final class QuestionsTest {
    public static void main(String[] args) {
        order();
        clashes();
        span();
        lane();
        ahead();
        quiet();
        lasts();
        fewest();
        longest();
        best();
        middle();
        holds();
        hands();
        echo();
        together();
        Check.end();
    }

    private static NoonGun emptyTown() {
        return new NoonGun();
    }

    private static void order() {
        NoonGun gun = Check.town("55;10;02", "01a;01b;11a;21a;12b;01c");
        Check.due("20: six", gun.order(), 6);
        Check.dueRow("20: six", gun, 2, 4, 3, 0, 1, 5);
        gun.hauls(5, 5);
        gun.order();
        Check.dueRow("20: from elsewhere", gun, 0, 1, 5, 3, 2, 4);
        gun.days(60);
        Check.due("20: without powder, too", gun.order(), 6);
        gun = emptyTown();
        gun.days(1);
        Check.due("20: none", gun.order(), 0);
        Check.dueRow("20: none", gun);
    }

    private static void clashes() {
        NoonGun gun = Check.smallTown();
        Check.due("21: one", gun.clashes(), 1);
        Check.dueRow("21: one", gun, 0, 1);
        gun.takes(0, 2);
        Check.due("21: ends when the other one begins", gun.clashes(), 0);
        Check.dueRow("21: none", gun);
        gun = Check.town("00;11", "11a;02b;03bc;12a;03c");
        Check.due("21: three", gun.clashes(), 3);
        Check.dueRow("21: three", gun, 0, 3);
        gun.days(1);
        gun.days(60);
        Check.due("21: without powder, too", gun.clashes(), 3);
        Check.due("21: none at all", emptyTown().clashes(), 0);
    }

    private static void span() {
        NoonGun gun = Check.smallTown();
        Check.due("22: small town", gun.span(), 9);
        Check.dueRow("22: small town", gun, 2, 25, 14);
        Check.damps(gun, "7");
        gun.span();
        Check.dueRow("22: later", gun, 9, 32, 14);
        gun = Check.town("00;01", "05a;11b;12c");
        Check.due("22: one within another", gun.span(), 5);
        Check.dueRow("22: one within another", gun, 0, 5, 0);
        gun = Check.town("00", "");
        gun.days(0);
        Check.due("22: no deeds", gun.span(), -2);
        Check.dueRow("22: the row stays", gun, 0, 0);
    }

    private static void lane() {
        NoonGun gun = Check.smallTown();
        Check.due("23: -1", gun.lane(-1), -1);
        Check.due("23: 4", gun.lane(4), -1);
        Check.due("23: a", gun.lane(0), 4);
        Check.dueRow("23: a", gun, 2, 4);
        Check.due("23: b", gun.lane(1), 7);
        Check.dueRow("23: b", gun, 1, 4);
        Check.due("23: c", gun.lane(2), 4);
        Check.dueRow("23: c", gun, 1, 20);
        Check.due("23: d", gun.lane(3), 0);
        Check.dueRow("23: d", gun, 0, -1);
        Check.due("23: refused", gun.lane(Integer.MAX_VALUE), -1);
        Check.dueRow("23: the row stays", gun, 0, -1);
    }

    private static void ahead() {
        NoonGun gun = Check.smallTown();
        Check.winds(gun, "048");
        Check.damps(gun, "12");
        Check.due("24: -1", gun.ahead(-1), -1);
        Check.due("24: 100", gun.ahead(100), -1);
        Check.due("24: this day", gun.ahead(0), 1);
        Check.dueRow("24: this day", gun, 1, 0);
        gun.days(1);
        Check.due("24: with wind 8", gun.ahead(1), 1);
        Check.dueRow("24: with wind 8", gun, 1, 8);
        Check.rule(gun, "(n=3)*d*9");
        gun.days(1);
        Check.due("24: day 3", gun.ahead(1), 0);
        Check.due("24: day 3 and 98", gun.ahead(99), 0);
        Check.due("24: day 4, all at once", gun.ahead(2), 2);
        Check.due("24: changes nothing", gun.count(2), 2);
        gun.days(60);
        Check.due("24: without powder, too", gun.ahead(0), 2);
    }

    private static void quiet() {
        NoonGun gun = Check.smallTown();
        gun.ahead(0);
        Check.due("25: never", gun.quiet(), -2);
        Check.dueRow("25: the row stays", gun, 0, 0);
        Check.rule(gun, "(n=3)*d*9");
        Check.due("25: day 3", gun.quiet(), 3);
        Check.dueRow("25: day 3", gun, 14);
        gun.days(3);
        Check.due("25: at once", gun.quiet(), 0);
        Check.dueRow("25: at once", gun, 15);
        Check.winds(gun, "00090000000000000000");
        Check.rule(gun, "(n=3)*(w=9)*d*9");
        gun.undo();
        Check.due("25: on one alone", gun.quiet(), 3);
        Check.dueRow("25: on one alone", gun, 1);
        Check.due("25: no deeds", emptyTown().quiet(), 0);
    }

    private static void lasts() {
        NoonGun gun = Check.smallTown();
        Check.due("26: twenty", gun.lasts(), 20);
        Check.dueRow("26: twenty", gun, 20);
        Check.rule(gun, "(n=3)*d*9");
        Check.due("26: three quiet ones", gun.lasts(), 20);
        Check.dueRow("26: three quiet ones", gun, 34);
        gun.days(18);
        Check.due("26: two", gun.lasts(), 2);
        Check.dueRow("26: two", gun, 4);
        gun.days(60);
        Check.due("26: none", gun.lasts(), 0);
        Check.dueRow("26: none", gun, 0);
    }

    private static void fewest() {
        NoonGun gun = Check.smallTown();
        Check.due("27: one", gun.fewest(), 1);
        Check.dueRow("27: of two the least", gun, 1);
        gun = Check.town("00", "01a;01b;09abcd;01c;01d");
        Check.due("27: the one in the midst", gun.fewest(), 1);
        Check.dueRow("27: the one in the midst", gun, 4);
        gun = Check.town("00", "01a;01a;01a;01b;01b");
        Check.due("27: three", gun.fewest(), 3);
        Check.dueRow("27: three", gun, 1 + 2 + 8);
        gun = Check.town("00", "01a;01b");
        Check.due("27: none", gun.fewest(), 0);
        Check.dueRow("27: none", gun, 0);
        Check.due("27: no deeds", emptyTown().fewest(), 0);
    }

    private static void longest() {
        NoonGun gun = Check.smallTown();
        Check.due("28: small town", gun.longest(), 12);
        Check.dueRow("28: small town", gun, 13);
        gun = Check.town("00", "02a;02b;04ab");
        Check.due("28: as long, but more", gun.longest(), 4);
        Check.dueRow("28: as long, but more", gun, 3);
        gun = Check.town("00", "02a;02b;05ab");
        Check.due("28: longer, but fewer", gun.longest(), 5);
        Check.dueRow("28: longer, but fewer", gun, 4);
        gun = Check.town("00", "03a;03a;03a");
        Check.due("28: the least bits", gun.longest(), 3);
        Check.dueRow("28: the least bits", gun, 1);
        Check.due("28: no deeds", emptyTown().longest(), 0);
    }

    private static void best() {
        NoonGun gun = Check.smallTown();
        Check.due("29: none", gun.best(), 0);
        Check.dueRow("29: none", gun, 0, 1, 1);
        Check.due("29: it stays", gun.count(7), 0);
        gun = Check.town("33;33", "01a;11a");
        Check.due("29: nothing helps", gun.best(), 1);
        Check.dueRow("29: nothing helps", gun, 0, 0, 1);
        Check.due("29: no deeds", emptyTown().best(), 0);
        gun = Check.town("09;90", "01a;11a");
        Check.due("29: off the middle", gun.best(), 0);
        Check.dueRow("29: off the middle", gun, 0, 1, 1);
    }

    private static void middle() {
        NoonGun gun = Check.smallTown();
        Check.due("30: small town", gun.middle(), 10);
        Check.dueRow("30: small town", gun, 1, 4);
        gun = Check.town("77", "");
        Check.damps(gun, "5");
        Check.due("30: at the house", gun.middle(), 5);
        Check.dueRow("30: at the house", gun, 7, 7);
        Check.due("30: no houses", emptyTown().middle(), -2);
        Check.rule(gun, "50-d");
        Check.due("30: far off", gun.middle(), 5 + 50 - 14);
        Check.dueRow("30: far off", gun, 0, 0);
    }

    private static void holds() {
        NoonGun gun = Check.smallTown();
        Check.due("31: -1", gun.holds(-1), -1);
        Check.due("31: 4", gun.holds(4), -1);
        Check.due("31: behind the other", gun.holds(0), 4);
        Check.dueRow("31: behind the other", gun, 6);
        Check.due("31: till the other ends", gun.holds(1), 1);
        Check.dueRow("31: till the other ends", gun, 5);
        Check.due("31: not at all", gun.holds(2), 0);
        Check.dueRow("31: not at all", gun, 20);
        gun = Check.town("00", "09a;03a");
        Check.due("31: by nine", gun.holds(1), 9);
        Check.dueRow("31: by nine", gun, 9);
        gun = Check.town("00;01", "09a;13a;03a");
        gun.days(0);
        Check.due("31: by none of these", gun.holds(2), 9);
        gun.takes(1, 9);
        Check.due("31: the other one begins at 2", gun.holds(2), -2);
        Check.dueRow("31: the row stays", gun, 9);
    }

    private static void hands() {
        NoonGun gun = Check.smallTown();
        Check.due("32: two", gun.hands(), 2);
        Check.dueRow("32: two", gun, 0, 1, 0, 1);
        gun = Check.town("02;00;01", "02a;14b;21c;11d;21a");
        // On 4-5, 0-3, 2, 0, 2: hands by turns of 1, 3, 2, 4, 0.
        Check.due("32: three", gun.hands(), 3);
        Check.dueRow("32: three", gun, 0, 0, 1, 1, 2);
        Check.due("32: none", emptyTown().hands(), 0);
    }

    private static void echo() {
        NoonGun gun = Check.smallTown();
        Check.due("33: -1", gun.echo(-1), -1);
        Check.due("33: 3", gun.echo(3), -1);
        Check.due("33: of the first", gun.echo(0), 168);
        Check.dueRow("33: of the first", gun, 0);
        gun.hill(0, 0);
        Check.rule(gun, "d*2-e");
        Check.due("33: ahead of the gun", gun.echo(1), 99);
        Check.dueRow("33: those behind it", gun, 2 + 4);
        Check.rule(gun, "d*2");
        Check.due("33: together", gun.echo(0), 100);
        Check.dueRow("33: together", gun, 2 + 4);
        Check.rule(gun, "99-99*e");
        Check.due("33: least", gun.echo(0), 1);
        Check.rule(gun, "99*e");
        Check.due("33: most", gun.echo(0), 199);
    }

    private static void together() {
        NoonGun gun = Check.town("10;02;55;20;01;99", "");
        Check.due("34: two pairs", gun.together(), 1 + 16 + 2 + 8);
        Check.dueRow("34: two pairs", gun, 4);
        Check.rule(gun, "x*10+y");
        Check.due("34: all apart", gun.together(), 0);
        Check.dueRow("34: all apart", gun, 6);
        Check.rule(gun, "1");
        Check.due("34: all", gun.together(), 63);
        Check.dueRow("34: all", gun, 1);
        gun = emptyTown();
        Check.due("34: no houses", gun.together(), 0);
        Check.dueRow("34: no houses", gun, 0);
    }
}

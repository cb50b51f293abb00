/** Promises 1 to 11: a new object, THE TEXT, and what is told by it. */
public final class TextsTest {
    private static final String EIGHT = "00;11;22;33;44;55;66;77";
    private static final String EIGHT_DEEDS = "01abcd;02abcd;03abcd;04abcd;05abcd;06abcd;07abcd;08abcd";

    public static void main(String[] args) {
        newObject();
        signs();
        ends();
        houses();
        deeds();
        windsAndDamps();
        ruleMisfits();
        ruleValues();
        house();
        deed();
        sheet();
        Check.end();
    }

    private static void newObject() {
        NoonGun gun = new NoonGun();
        int[] counts = {0, 0, 0, 20, 0, 0, 0, 0, 0, 0, 0, 0, 0, 0};
        for (int what = 0; what < counts.length; what++) {
            Check.due("1: count " + what, gun.count(what), counts[what]);
        }
        Check.due("1: the hill is at 9, 9", gun.hill(0, 0), 18);
        Check.due("1: NONE", NoonGun.NONE, -1);
    }

    private static void signs() {
        NoonGun gun = new NoonGun();
        for (int i = 1; i <= 20; i++) {
            Check.due("2: sign", gun.sign(0x31323334), 4 * i);
        }
        Check.due("2: sign 81", gun.sign(0), -1);
        Check.due("2: refused, the text stays", gun.count(13), 80);
        gun.end(77);
        Check.due("2: no room for four", gun.sign(0), -1);
        gun.end(76);
        Check.due("2: room for four", gun.sign(0), 80);
        gun.end(4);
        Check.due("2: the highest byte first", gun.winds(), 4);
        Check.due("2: the first digit", gun.count(8), 1);
        gun.days(1);
        Check.due("2: the second digit", gun.count(8), 2);
        gun.sign(0xFF000000);
        Check.due("2: a byte with the highest bit", gun.winds(), -1);
    }

    private static void ends() {
        NoonGun gun = new NoonGun();
        gun.sign(0x31323334);
        Check.due("3: below 0", gun.end(-1), false);
        Check.due("3: has not so many", gun.end(5), false);
        Check.due("3: all", gun.end(4), true);
        Check.due("3: some", gun.end(2), true);
        Check.due("3: so many", gun.count(13), 2);
        Check.due("3: more than are left", gun.end(3), false);
        Check.due("3: lowest int", gun.end(Integer.MIN_VALUE), false);
        Check.due("3: none", gun.end(0), true);
        Check.due("3: none is left", gun.count(13), 0);
    }

    private static void houses() {
        NoonGun gun = new NoonGun();
        Check.due("4: empty", Check.houses(gun, ""), 0);
        Check.due("4: a letter", Check.houses(gun, "x1"), -1);
        Check.due("4: ends behind x", Check.houses(gun, "1"), -2);
        Check.due("4: no y", Check.houses(gun, "1;"), -2);
        Check.due("4: three digits", Check.houses(gun, "123"), -3);
        Check.due("4: ends behind ;", Check.houses(gun, "12;"), -4);
        Check.due("4: two ;", Check.houses(gun, "12;;"), -4);
        Check.due("4: nothing comes", gun.count(0), 0);
        Check.due("4: the text is emptied", gun.count(13), 0);
        Check.due("4: second line ends", Check.houses(gun, "12;3"), -5);
        Check.due("4: nothing of it comes", gun.count(0), 0);
        Check.due("4: more than 23", Check.houses(gun, EIGHT + ";"), -24);
        Check.due("4: more than 23, any sign", Check.houses(gun, EIGHT + "\u00ff0000"), -24);
        Check.due("4: a fault ahead of 23", Check.houses(gun, "00;1x;22;33;44;55;66;77;88;99"), -5);
        Check.due("4: one", Check.houses(gun, "90"), 1);
        Check.due("4: two more", Check.houses(gun, "12;34"), 2);
        Check.due("4: three", gun.count(0), 3);
        Check.due("4: x", gun.house(2, 0), 3);
        Check.due("4: y", gun.house(2, 1), 4);
        Check.due("4: x of the first", gun.house(0, 0), 9);
        Check.due("4: no room for a sixth", Check.houses(gun, "00;11;22;33;44;55"), -16);
        Check.due("4: no room for it, none told", Check.houses(gun, "00;11;22;33;44;"), -16);
        Check.due("4: three still", gun.count(0), 3);
        Check.due("4: five more", Check.houses(gun, "00;11;22;33;44"), 5);
        Check.due("4: no room", Check.houses(gun, "00"), -1);
        Check.due("4: empty, no room", Check.houses(gun, ""), 0);
        Check.due("4: eight at once", Check.houses(new NoonGun(), EIGHT), 8);
    }

    private static void deeds() {
        NoonGun gun = new NoonGun();
        Check.due("5: without houses", Check.deeds(gun, "01a"), -1);
        Check.due("5: empty", Check.deeds(gun, ""), 0);
        Check.houses(gun, "10;02;55");
        Check.due("5: house not there", Check.deeds(gun, "31a"), -1);
        Check.due("5: no digit", Check.deeds(gun, "a1a"), -1);
        Check.due("5: length 0", Check.deeds(gun, "00a"), -2);
        Check.due("5: ends behind the house", Check.deeds(gun, "0"), -2);
        Check.due("5: no lanes", Check.deeds(gun, "03"), -3);
        Check.due("5: no lanes, ;", Check.deeds(gun, "03;"), -3);
        Check.due("5: lane e", Check.deeds(gun, "03e"), -3);
        Check.due("5: lane ahead of a", Check.deeds(gun, "03`"), -3);
        Check.due("5: falling", Check.deeds(gun, "03ba"), -4);
        Check.due("5: twice", Check.deeds(gun, "03aa"), -4);
        Check.due("5: falling later", Check.deeds(gun, "03adc"), -5);
        Check.due("5: ends behind ;", Check.deeds(gun, "03a;"), -5);
        Check.due("5: second line", Check.deeds(gun, "03a;13"), -7);
        Check.due("5: nothing came", gun.count(1), 0);
        Check.due("5: the text is emptied", gun.count(13), 0);
        Check.due("5: more than 55", Check.deeds(gun, EIGHT_DEEDS + ";"), -56);
        Check.due("5: ninth line", Check.deeds(gun, "01a;01a;01a;01a;01a;01a;01a;01a;01a"), -33);
        Check.due("5: one", Check.deeds(gun, "21bd"), 1);
        Check.due("5: two more", Check.deeds(gun, "03a;19abcd"), 2);
        Check.due("5: three", gun.count(1), 3);
        Check.due("5: house", gun.deed(2, 0), 1);
        Check.due("5: length", gun.deed(2, 1), 9);
        Check.due("5: lanes", gun.deed(2, 2), 15);
        Check.due("5: lanes b, d", gun.deed(0, 2), 10);
        Check.due("5: no room for a sixth", Check.deeds(gun, "01a;01b;01c;01d;02a;02b"), -21);
        Check.due("5: three still", gun.count(1), 3);
        gun = new NoonGun();
        Check.houses(gun, "10");
        Check.due("5: eight, 55 signs", Check.deeds(gun, EIGHT_DEEDS), 8);
        Check.due("5: no room", Check.deeds(gun, "01a"), -1);
    }

    private static void windsAndDamps() {
        NoonGun gun = new NoonGun();
        Check.due("6: none", Check.winds(gun, ""), -1);
        Check.due("6: a letter", Check.winds(gun, "12a"), -3);
        Check.due("6: twenty-one", Check.winds(gun, "012345678901234567890"), -21);
        Check.due("6: twenty-one, no digit", Check.winds(gun, "01234567890123456789x"), -21);
        Check.due("6: twenty", Check.winds(gun, "01234567890123456789"), 20);
        Check.due("6: the text is emptied", gun.count(13), 0);
        Check.due("7: none", Check.damps(gun, ""), -1);
        Check.due("7: a sign ahead", Check.damps(gun, " 1"), -1);
        Check.due("7: twenty-one", Check.damps(gun, "012345678901234567890"), -21);
        Check.due("7: three", Check.damps(gun, "705"), 3);
        int[] damps = {7, 0, 5, 7};
        for (int day = 0; day < damps.length; day++) {
            Check.due("6: of day " + day, gun.count(8), day);
            Check.due("7: of day " + day, gun.count(9), damps[day]);
            gun.days(1);
        }
        Check.due("7: refused", Check.damps(gun, "9x"), -2);
        Check.due("7: as it was", gun.count(9), 0);
        gun.days(16);
        Check.due("6: over again", gun.count(8), 0);
    }

    private static void ruleMisfits() {
        NoonGun gun = new NoonGun();
        String forty = "d+d+d+d+d+d+d+d+d+d+d+d+d+d+d+d+d+d+d+10";
        Object[][] texts = {
            {"", 0}, {"z", -1}, {"d*", -3}, {"d**w", -3}, {"1234", -4}, {"123", 0}, {"12d", -3},
            {"dw", -2}, {"d1", -2}, {"d(", -2}, {"()", -2}, {"(d", -3}, {"d)", -2}, {"(d))", -4},
            {"((((d))))", 0}, {"(((((d)))))", -5}, {"(d)(d)", -4}, {"(d)1", -4}, {"(1)1", -4}, {"----d", 0}, {"--", -3},
            {"d--w", 0}, {"d+*w", -3}, {"d<w", 0}, {"d<w<m", -4}, {"d<w=m", -4}, {"(d<w)<m", 0},
            {"d<(w<m)", 0}, {"(d<w<m)", -5}, {"d<w+m>x", -6}, {"<d", -1}, {"+d", -1}, {"d<", -3},
            {"d~w", -2}, {"d w", -2}, {"x+y+n+e+m", 0}, {"D", -1}, {"d<=w", -3}, {"(d+w)*(x-y)<3", 0},
            {forty, 0}, {forty + "0", -41}, {forty + "x", -41}, {"((((" + forty, -41},
            {"zd" + forty, -1}, {forty.substring(0, 38) + "(d", -41}, {"\u00e9", -1},
            {"((((d))))+((((w))))", 0}, {"((((d))))+(((((w)))))", -15},
        };
        for (Object[] text : texts) {
            Check.due("8: rule " + text[0], Check.rule(gun, (String) text[0]), (Integer) text[1]);
            Check.due("8: the text is emptied", gun.count(13), 0);
        }
    }

    private static void ruleValues() {
        NoonGun gun = Check.town("37", "");
        Check.winds(gun, "5");
        Check.damps(gun, "4");
        gun.days(9);
        Object[][] rules = {
            {"", 18}, {"d", 10}, {"w", 5}, {"m", 4}, {"x", 3}, {"y", 7}, {"n", 2}, {"e", 0},
            {"1+2*3", 7}, {"(1+2)*3", 9}, {"9-4-3", 2}, {"100/7/2", 7}, {"8/3*3", 6}, {"7/0", 0},
            {"5+7/(d-d)", 5}, {"0-7/2+10", 7}, {"-7/2+10", 7}, {"--5", 5}, {"---5", 0}, {"3--5", 8},
            {"3*-5+20", 5}, {"d<11", 1}, {"d<10", 0}, {"d>9", 1}, {"d>10", 0}, {"d=10", 1},
            {"d=9+1", 1}, {"d+1<11", 0}, {"(d=10)*7", 7}, {"(d<w)+(d>w)*2", 2}, {"100", 99}, {"99", 99},
            {"0-1", 0}, {"999*999*9*999", 99}, {"999*999*3*999", 0}, {"007", 7}, {"-(d-12)", 2},
            {"-d/(0-3)", 3}, {"1=1", 1}, {"x*y-d*2", 1}, {"5-(3-(4-(5-(1))))", 2},
        };
        for (Object[] rule : rules) {
            Check.due("8: " + rule[0], Check.rule(gun, (String) rule[0]), 0);
            Check.due("8: delay by " + rule[0], gun.house(0, 3) - 4, (Integer) rule[1]);
        }
        Check.rule(gun, "7");
        Check.due("8: refused", Check.rule(gun, "8+"), -3);
        Check.due("8: as it was", gun.house(0, 3), 11);
        Check.rule(gun, "e*50+d");
        Check.due("8: no echo", gun.house(0, 3), 14);
        Check.due("8: an echo, 18 and 8 off", gun.house(0, 4), 4 + 50 + 26);
    }

    private static void house() {
        NoonGun gun = Check.smallTown();
        Check.due("9: x", gun.house(0, 0), 1);
        Check.due("9: y", gun.house(1, 1), 2);
        Check.due("9: watch at first", gun.house(2, 2), 0);
        Check.due("9: hears", gun.house(2, 3), 20);
        Check.due("9: echo", gun.house(2, 4), 52);
        Check.due("9: echo, far off", gun.house(0, 4), 70);
        Check.due("9: deeds", gun.house(2, 5), 12);
        Check.damps(gun, "3");
        Check.winds(gun, "5");
        Check.due("9: damp and wind", gun.house(2, 3), 21);
        Check.due("9: echo with them", gun.house(2, 4), 53);
        gun.days(60);
        Check.due("9: without powder, too", gun.house(2, 3), 21);
        Check.due("9: watch", gun.house(1, 2), 5);
        Check.dueNoSuch("9: what 6", () -> gun.house(0, 6));
        Check.dueNoSuch("9: what -1", () -> gun.house(0, -1));
        Check.dueNoSuch("9: house 3", () -> gun.house(3, 0));
        Check.dueNoSuch("9: house -1", () -> gun.house(-1, 0));
        Check.dueNoSuch("9: far away", () -> gun.house(Integer.MAX_VALUE, Integer.MIN_VALUE));
    }

    private static void deed() {
        NoonGun gun = Check.smallTown();
        Check.due("10: house", gun.deed(3, 0), 2);
        Check.due("10: length", gun.deed(2, 1), 5);
        Check.due("10: lanes", gun.deed(1, 2), 3);
        Check.due("10: begins", gun.deed(1, 3), 4);
        Check.due("10: clashes", gun.deed(0, 4), 2);
        Check.due("10: clashes back", gun.deed(1, 4), 1);
        Check.due("10: other lanes", gun.deed(2, 4), 0);
        gun.takes(0, 2);
        Check.due("10: ends at 4, when the other begins", gun.deed(0, 4), 0);
        Check.dueNoSuch("10: what 5", () -> gun.deed(0, 5));
        Check.dueNoSuch("10: what -1", () -> gun.deed(0, -1));
        Check.dueNoSuch("10: deed 4", () -> gun.deed(4, 0));
        Check.dueNoSuch("10: deed -1", () -> gun.deed(-1, 0));
    }

    private static void sheet() {
        NoonGun gun = Check.smallTown();
        Check.due("11: another kind", gun.sheet(4, 0, 0, 0), -1);
        Check.due("11: kind -1", gun.sheet(-1, -1, 0, 0), -1);
        Check.due("11: n 9", gun.sheet(0, 9, 0, 0), -1);
        Check.due("11: n 9 of a missing one", gun.sheet(3, 9, 0, 0), -1);
        Check.due("11: n below 0", gun.sheet(2, -1, 0, 0), -2);
        Check.due("11: nothing changes", gun.deed(2, 1), 5);
        Check.due("11: ints", gun.sheet(2, 4, 2, 3), 2 + 5 + 8 + 9);
        Check.due("11: put to 9", gun.deed(3, 1), 9);
        Check.due("11: more than deeds", gun.sheet(2, 8, 1, 1), 10);
        Check.due("11: fewer", gun.sheet(1, 2, 4, 0), 4 + 4 + 1 + 1);
        Check.due("11: behind it", gun.deed(2, 1), 1);
        Check.due("11: none", gun.sheet(0, 0, 7, 7), 4);
        Check.due("11: bytes with their sign", gun.sheet(0, 4, 127, 1), 9 + 1 + 1 + 1);
        Check.due("11: bytes, lowest bits", gun.sheet(0, 2, 256 + 3, 256), 3 + 3 + 1 + 1);
        Check.due("11: shorts with their sign", gun.sheet(1, 4, 32767, 1), 9 + 1 + 1 + 1);
        Check.due("11: shorts, lowest bits", gun.sheet(1, 4, 65536 + 5, 1), 5 + 6 + 7 + 8);
        Check.due("11: ints, as they are", gun.sheet(2, 4, 65536 + 5, 1), 36);
        Check.due("11: ints go round", gun.sheet(2, 2, Integer.MAX_VALUE, 1), 9 + 1 + 1 + 1);
        Check.due("11: missing", gun.sheet(3, 4, 9, 0), -3);
        Check.due("11: all 1", gun.deed(0, 1), 1);
        gun.takes(1, 7);
        Check.due("11: missing, n below 0", gun.sheet(3, -5, 0, 0), -3);
        Check.due("11: all 1 again", gun.deed(1, 1), 1);
        Check.due("11: no undo of it", gun.count(11), 1);
    }
}

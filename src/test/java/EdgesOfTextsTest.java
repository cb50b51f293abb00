/** Boundary cases of promises 1 to 11, each with a test of its own. */
public final class EdgesOfTextsTest {
    private static final int LEAST = Integer.MIN_VALUE;
    private static final int MOST = Integer.MAX_VALUE;
    private static final String EIGHT = "00;11;22;33;44;55;66;77";
    private static final String EIGHT_DEEDS = "01abcd;02abcd;03abcd;04abcd;05abcd;06abcd;07abcd;08abcd";
    private static final String FIRST_RULE = "d*2-w/2";

    public static void main(String[] args) {
        Edges.run(EdgesOfTextsTest.class, 1, 11);
    }

    private static String times(String text, int n) {
        return text.repeat(n);
    }

    // ---- 1: a new object

    private static void promise01NoHouses() {
        NoonGun gun = new NoonGun();
        Check.due("houses", gun.count(0), 0);
        for (int what = 0; what <= 5; what++) {
            int w = what;
            Check.dueNoSuch("house 0, " + what, () -> gun.house(0, w));
        }
    }

    private static void promise01NoDeeds() {
        NoonGun gun = new NoonGun();
        Check.due("deeds", gun.count(1), 0);
        for (int what = 0; what <= 4; what++) {
            int w = what;
            Check.dueNoSuch("deed 0, " + what, () -> gun.deed(0, w));
        }
    }

    private static void promise01DayClashesMuteAre0() {
        NoonGun gun = new NoonGun();
        Check.due("day", gun.count(2), 0);
        Check.due("clashes", gun.count(4), 0);
        Check.due("mute", gun.count(5), 0);
    }

    private static void promise01PowderIs20() {
        NoonGun gun = new NoonGun();
        Check.due("powder", gun.count(3), 20);
        Check.due("twenty days", gun.days(20), 0);
        Check.dueRow("not mute yet", gun, 0, 0);
        gun.days(1);
        Check.dueRow("mute", gun, 0, 1);
    }

    private static void promise01GunIsAt00() {
        NoonGun gun = new NoonGun();
        Check.due("x", gun.count(6), 0);
        Check.due("y", gun.count(7), 0);
        Check.due("it is there", gun.hauls(0, 0), -2);
    }

    private static void promise01HillIsAt99() {
        Check.due("it is there", new NoonGun().hill(9, 9), 0);
        NoonGun gun = Check.town("99;00", "", "d");
        Check.due("the echo at once", gun.house(0, 4), 18);
        Check.due("the echo back", gun.house(1, 4), 36);
    }

    private static void promise01WindsAndDampsAre0() {
        for (int n = 0; n <= 99; n++) {
            NoonGun gun = new NoonGun();
            gun.ahead(n);
            Check.dueRow("day " + n, gun, 0, 0);
        }
    }

    private static void promise01TheFirstRule() {
        NoonGun gun = Check.town("05;23;99", "");
        Check.winds(gun, "0123456789");
        for (int day = 0; day < 10; day++) {
            Check.law(gun, FIRST_RULE);
            Check.dueRow("wind " + day, gun, 0, 0, 10 - day / 2, 10 - day / 2, 36 - day / 2);
            Check.due("as it is", gun.house(2, 3), 36 - day / 2);
            gun.days(1);
        }
    }

    private static void promise01NothingToldHeardUndoneKept() {
        NoonGun gun = new NoonGun();
        Check.dueRow("row", gun);
        Check.due("heard", gun.forget(), 0);
        Check.due("undone", gun.count(11), 0);
        Check.due("undo", gun.undo(), -1);
        for (int i = 0; i < 3; i++) {
            Check.due("kept " + i, gun.again(i), false);
        }
        Check.due("text", gun.count(13), 0);
    }

    // ---- 2: sign

    private static void promise02TheHighestByteIsFirst() {
        NoonGun gun = new NoonGun();
        gun.sign(0x39383736);
        gun.winds();
        for (int day = 0; day < 4; day++) {
            Check.due("day " + day, gun.count(8), 9 - day);
            gun.days(1);
        }
    }

    private static void promise02BelowZero() {
        NoonGun gun = new NoonGun();
        Check.due("-1", gun.sign(-1), 4);
        Check.due("least", gun.sign(LEAST), 8);
        Check.due("most", gun.sign(MOST), 12);
        Check.due("none is a digit", gun.winds(), -1);
        // 0xB1 is 0x31 but for its highest bit.
        gun.sign(0xB1323334);
        Check.due("no digit", gun.winds(), -1);
        gun.sign(0x31B23334);
        Check.due("no digit behind", gun.winds(), -2);
    }

    private static void promise02SignsOf0Count() {
        NoonGun gun = new NoonGun();
        Check.due("0", gun.sign(0), 4);
        gun.end(0);
        gun.sign(0x31000000);
        Check.due("they are there", gun.winds(), -2);
    }

    private static void promise02EightyAreFull() {
        NoonGun gun = new NoonGun();
        for (int i = 1; i <= 20; i++) {
            Check.due("sign", gun.sign(0x30303030), 4 * i);
        }
        Check.due("a twenty-first time", gun.sign(0x30303030), -1);
        Check.due("eighty", gun.count(13), 80);
        Check.due("refused again", gun.sign(0), -1);
    }

    private static void promise02RoomForFourAtLeast() {
        for (int length = 77; length <= 80; length++) {
            NoonGun gun = filled(NoonGun::new, 80);
            gun.end(length);
            Check.due("at " + length, gun.sign(0x31313131), -1);
            Check.due("still " + length, gun.count(13), length);
        }
        Check.due("at 76", filled(NoonGun::new, 76).sign(0x31313131), 80);
    }

    private static void promise02RefusedChangesNothing() {
        for (int length = 77; length <= 80; length++) {
            int n = length;
            for (Twins.Town town : Twins.TOWNS) {
                Twins.refusedIn(() -> filled(town, n), "sign at " + n, -1, gun -> gun.sign(0x31323334));
            }
        }
    }

    private static NoonGun filled(Twins.Town town, int n) {
        NoonGun gun = town.make();
        gun.end(0);
        Check.text(gun, (Twins.SIXTY_SIGNS + times("7", 20)).substring(0, n));
        return gun;
    }

    // ---- 3: end

    private static void promise03BelowZeroIsRefused() {
        Twins.refused("end -1", 0, gun -> gun.end(-1) ? 1 : 0);
        Twins.refused("end least", 0, gun -> gun.end(LEAST) ? 1 : 0);
    }

    private static void promise03NotSoManyIsRefused() {
        Twins.refused("one more", 0, gun -> gun.end(gun.count(13) + 1) ? 1 : 0);
        Twins.refused("81", 0, gun -> gun.end(81) ? 1 : 0);
        Twins.refused("most", 0, gun -> gun.end(MOST) ? 1 : 0);
    }

    private static void promise03OfAnEmptyText() {
        NoonGun gun = new NoonGun();
        Check.due("0", gun.end(0), true);
        Check.due("1", gun.end(1), false);
    }

    private static void promise03AllOfThem() {
        for (Twins.Town town : Twins.TOWNS) {
            NoonGun gun = town.make();
            Check.due("all", gun.end(gun.count(13)), true);
            Twins.unchanged("all", town, () -> allOf(town));
        }
    }

    private static NoonGun allOf(Twins.Town town) {
        NoonGun gun = town.make();
        gun.end(gun.count(13));
        return gun;
    }

    private static void promise03None() {
        NoonGun gun = Twins.midTown();
        Check.due("0", gun.end(0), true);
        Check.due("none", gun.count(13), 0);
        Check.due("no winds", gun.winds(), -1);
    }

    private static void promise03TheFirstOnesStay() {
        NoonGun gun = new NoonGun();
        Check.text(gun, "12345678");
        Check.due("3", gun.end(3), true);
        Check.due("those cut are gone", gun.end(4), false);
        Check.due("three", gun.winds(), 3);
        gun.ahead(2);
        Check.due("the third", gun.row(1), 3);
        gun.ahead(3);
        Check.due("the first", gun.row(1), 1);
    }

    private static void promise03SignsComeBehindWhatIsLeft() {
        NoonGun gun = new NoonGun();
        Check.text(gun, "1234");
        gun.end(1);
        Check.due("five", gun.sign(0x35363738), 5);
        gun.winds();
        gun.ahead(1);
        Check.due("behind the first", gun.row(1), 5);
    }

    // ---- 4: houses

    private static void promise04AnEmptyTextIsNothing() {
        Twins.refusedText("houses", "", 0, gun -> gun.houses());
    }

    private static void promise04EndsTooEarly() {
        Twins.refusedTextIn(NoonGun::new, "houses", "1", -2, gun -> gun.houses());
        Twins.refusedTextIn(NoonGun::new, "houses", "12;", -4, gun -> gun.houses());
        Twins.refusedTextIn(Twins::midTown, "houses", "12;3", -5, gun -> gun.houses());
        Twins.refusedTextIn(Twins::midTown, "houses", "12;34;", -7, gun -> gun.houses());
        Twins.refusedTextIn(NoonGun::new, "houses", EIGHT.substring(0, 22), -23, gun -> gun.houses());
    }

    private static void promise04WhichSignsCanStand() {
        Check.due("x", Twins.standing("", NoonGun::new, gun -> gun.houses()), "0123456789");
        Check.due("y", Twins.standing("1", NoonGun::new, gun -> gun.houses()), "0123456789");
        Check.due("between", Twins.standing("12", NoonGun::new, gun -> gun.houses()), ";");
        Check.due("x of the next one", Twins.standing("12;", NoonGun::new, gun -> gun.houses()), "0123456789");
        Check.due("y of the next one", Twins.standing("12;3", NoonGun::new, gun -> gun.houses()), "0123456789");
    }

    private static void promise04CornersOfTheTown() {
        NoonGun gun = new NoonGun();
        Check.due("four", Check.houses(gun, "00;09;90;99"), 4);
        for (int house = 0; house < 4; house++) {
            Check.due("x " + house, gun.house(house, 0), house / 2 * 9);
            Check.due("y " + house, gun.house(house, 1), house % 2 * 9);
        }
    }

    private static void promise04SeveralOnOnePlace() {
        NoonGun gun = new NoonGun();
        Check.due("eight", Check.houses(gun, "55;55;55;55;55;55;55;55"), 8);
        Check.due("they are eight", gun.count(0), 8);
        Check.due("all hear it together", gun.together(), 255);
    }

    private static void promise04TwentyThreeSigns() {
        NoonGun gun = new NoonGun();
        Check.due("23", Check.houses(gun, EIGHT), 8);
        Check.due("eight", gun.count(0), 8);
        Check.due("the last one", gun.house(7, 0) * 10 + gun.house(7, 1), 77);
    }

    private static void promise04MoreThanTwentyThree() {
        String[] behind = {";", ";8", ";88", "0", "!", times("\u00ff", 57), times("0", 57)};
        for (String signs : behind) {
            Twins.Town town = () -> Twins.lived(new NoonGun());
            Twins.refusedTextIn(town, "houses", EIGHT + signs, -24, gun -> gun.houses());
        }
    }

    private static void promise04AFaultAheadOfTwentyThree() {
        for (int p = 0; p < 23; p++) {
            String text = EIGHT.substring(0, p) + "!" + EIGHT.substring(p + 1) + ";88";
            Check.due("at " + p, Check.houses(new NoonGun(), text), -1 - p);
        }
    }

    private static void promise04NoRoomForALine() {
        for (int there = 1; there <= 7; there++) {
            Twins.Town town = withHouses(there);
            Twins.refusedTextIn(town, "with " + there, EIGHT, -1 - 3 * (8 - there), gun -> gun.houses());
        }
    }

    private static void promise04NoRoomAtAll() {
        String[] texts = {"1", "12", "12;34", "x", ";", EIGHT, EIGHT + ";88"};
        for (String text : texts) {
            Twins.refusedTextIn(Twins::fullTown, "houses", text, -1, gun -> gun.houses());
        }
    }

    private static void promise04JustRoomEnough() {
        for (int there = 0; there <= 7; there++) {
            NoonGun gun = withHouses(there).make();
            Check.due("behind " + there, Check.houses(gun, EIGHT.substring(3 * there)), 8 - there);
            Check.due("full", gun.count(0), 8);
        }
    }

    private static void promise04AFaultAheadOfTheLineWithoutRoom() {
        Check.due("y", Check.houses(withHouses(7).make(), "1x;22"), -2);
        Check.due("two ;", Check.houses(withHouses(7).make(), "11;;"), -4);
        Check.due("ends behind ;", Check.houses(withHouses(7).make(), "11;"), -4);
    }

    private static Twins.Town withHouses(int n) {
        return () -> Check.town(EIGHT.substring(0, 3 * n - (n > 0 ? 1 : 0)), "");
    }

    private static void promise04NothingComesIfALineCannot() {
        Twins.refusedTextIn(Twins::midTown, "houses", "12;34;5x", -8, gun -> gun.houses());
        Twins.refusedTextIn(Twins::midTown, "houses", "12;34;567", -9, gun -> gun.houses());
        Twins.refusedTextIn(Twins::midTown, "houses", "12;34;56;78;90;11", -16, gun -> gun.houses());
    }

    private static void promise04RefusedTextsLeaveNothing() {
        String[] texts = {"x", " ", "1a", "1;", "123", ";", ";12", "-1", "\u0000", "\u00ff"};
        long[] due = {-1, -1, -2, -2, -3, -1, -1, -1, -1, -1};
        for (int i = 0; i < texts.length; i++) {
            Twins.refusedTextIn(NoonGun::new, "houses", texts[i], due[i], gun -> gun.houses());
            Twins.refusedTextIn(Twins::midTown, "houses", texts[i], due[i], gun -> gun.houses());
        }
    }

    private static void promise04WatchesAreAtFirst0() {
        NoonGun gun = Twins.midTown();
        gun.end(0);
        gun.days(1);
        Check.houses(gun, "99;88;7");
        Check.houses(gun, "99;88");
        Check.due("those there", gun.house(2, 2) > 0, true);
        Check.due("the fourth", gun.house(3, 2), 0);
        Check.due("the fifth", gun.house(4, 2), 0);
    }

    // ---- 5: deeds

    private static void promise05AnEmptyTextIsNothing() {
        Twins.refusedText("deeds", "", 0, gun -> gun.deeds());
    }

    private static void promise05AHouseThatIsThere() {
        Twins.refusedTextIn(NoonGun::new, "deeds", "01a", -1, gun -> gun.deeds());
        for (int there = 0; there <= 8; there++) {
            StringBuilder digits = new StringBuilder();
            for (int house = 0; house < there; house++) {
                digits.append(house);
            }
            Check.due("of " + there, Twins.standing("", withHouses(there), gun -> gun.deeds()), digits.toString());
        }
        Twins.refusedTextIn(Twins::midTown, "deeds", "21a;31a", -5, gun -> gun.deeds());
    }

    private static void promise05WhichLengthsCanStand() {
        Check.due("length", Twins.standing("0", withHouses(1), gun -> gun.deeds()), "123456789");
        Twins.refusedTextIn(Twins::midTown, "deeds", "00a", -2, gun -> gun.deeds());
    }

    private static void promise05TheLeastAndTheMostLength() {
        NoonGun gun = Check.town("00", "01a;09b");
        Check.due("1", gun.deed(0, 1), 1);
        Check.due("9", gun.deed(1, 1), 9);
    }

    private static void promise05AtLeastOneLane() {
        Check.due("the first letter", Twins.standing("01", withHouses(1), gun -> gun.deeds()), "abcd");
        Twins.refusedTextIn(Twins::midTown, "deeds", "01", -3, gun -> gun.deeds());
        Twins.refusedTextIn(Twins::midTown, "deeds", "01;01a", -3, gun -> gun.deeds());
        Twins.refusedTextIn(Twins::midTown, "deeds", "01a;01", -7, gun -> gun.deeds());
    }

    private static void promise05LanesRise() {
        String[] lanes = {"a", "b", "c", "d", "ab", "ac", "bd", "abc", "abcd"};
        String[] standing = {";bcd", ";cd", ";d", ";", ";cd", ";d", ";", ";d", ";"};
        for (int i = 0; i < lanes.length; i++) {
            String got = Twins.standing("01" + lanes[i], withHouses(1), gun -> gun.deeds());
            Check.due("behind " + lanes[i], got, standing[i]);
        }
    }

    private static void promise05ALetterNoMoreThanTheOneAhead() {
        Twins.refusedTextIn(Twins::midTown, "deeds", "01aa", -4, gun -> gun.deeds());
        Twins.refusedTextIn(Twins::midTown, "deeds", "01ba", -4, gun -> gun.deeds());
        Twins.refusedTextIn(Twins::midTown, "deeds", "01adc", -5, gun -> gun.deeds());
        Twins.refusedTextIn(Twins::midTown, "deeds", "01abcda", -7, gun -> gun.deeds());
    }

    private static void promise05LanesAreBits() {
        NoonGun gun = Check.town("00", "01a;01d;01abcd;01bc");
        Check.due("a", gun.deed(0, 2), 1);
        Check.due("d", gun.deed(1, 2), 8);
        Check.due("all", gun.deed(2, 2), 15);
        Check.due("b, c", gun.deed(3, 2), 6);
    }

    private static void promise05EndsTooEarly() {
        Twins.refusedTextIn(Twins::midTown, "deeds", "0", -2, gun -> gun.deeds());
        Twins.refusedTextIn(Twins::midTown, "deeds", "03", -3, gun -> gun.deeds());
        Twins.refusedTextIn(Twins::midTown, "deeds", "03a;", -5, gun -> gun.deeds());
        Twins.refusedTextIn(Twins::midTown, "deeds", "03a;1", -6, gun -> gun.deeds());
        Twins.refusedTextIn(withHouses(8), "deeds", EIGHT_DEEDS.substring(0, 51), -52, gun -> gun.deeds());
    }

    private static void promise05FiftyFiveSigns() {
        NoonGun gun = withHouses(1).make();
        Check.due("55", Check.deeds(gun, EIGHT_DEEDS), 8);
        Check.due("eight", gun.count(1), 8);
        Check.due("the last one's length", gun.deed(7, 1), 8);
        Check.due("the last one's lanes", gun.deed(7, 2), 15);
    }

    private static void promise05MoreThanFiftyFive() {
        String[] behind = {";", ";0", ";01a", "a", "d", "e", "!", times("\u00ff", 25)};
        for (String signs : behind) {
            Twins.Town town = () -> Twins.lived(withHouses(3).make());
            Twins.refusedTextIn(town, "deeds", EIGHT_DEEDS + signs, -56, gun -> gun.deeds());
        }
    }

    private static void promise05AFaultAheadOfFiftyFive() {
        for (int p = 0; p < 55; p++) {
            String text = EIGHT_DEEDS.substring(0, p) + "!" + EIGHT_DEEDS.substring(p + 1) + ";01a";
            Check.due("at " + p, Check.deeds(withHouses(1).make(), text), -1 - p);
        }
    }

    private static void promise05NoRoomForALine() {
        String nine = times("01a;", 8) + "01a";
        Twins.refusedTextIn(withHouses(1), "deeds", nine, -33, gun -> gun.deeds());
        for (int there = 1; there <= 7; there++) {
            Twins.refusedTextIn(withDeeds(there), "with " + there, nine, -1 - 4 * (8 - there), gun -> gun.deeds());
        }
        // The ninth LINE begins at 55.
        String eight = "01a;01a;01abcd;01abcd;01abcd;01abcd;01abcd;01abcd;01a";
        Twins.refusedTextIn(withHouses(1), "deeds", eight, -51, gun -> gun.deeds());
    }

    private static void promise05NoRoomAtAll() {
        String[] texts = {"0", "01a", "x", ";", "91a", nineLines(), EIGHT_DEEDS + ";"};
        for (String text : texts) {
            Twins.refusedTextIn(Twins::fullTown, "deeds", text, -1, gun -> gun.deeds());
        }
    }

    private static String nineLines() {
        return times("01a;", 8) + "01a";
    }

    private static void promise05JustRoomEnough() {
        for (int there = 0; there <= 7; there++) {
            NoonGun gun = withDeeds(there).make();
            Check.due("behind " + there, Check.deeds(gun, nineLines().substring(4 + 4 * there)), 8 - there);
            Check.due("full", gun.count(1), 8);
        }
    }

    private static Twins.Town withDeeds(int n) {
        return () -> Check.town("00;11", n == 0 ? "" : nineLines().substring(0, 4 * n - 1));
    }

    private static void promise05AFaultAheadOfTheLineWithoutRoom() {
        Check.due("lane", Check.deeds(withDeeds(7).make(), "01e;01a"), -3);
        Check.due("ends behind ;", Check.deeds(withDeeds(7).make(), "01a;"), -5);
    }

    private static void promise05NothingComesIfALineCannot() {
        Twins.refusedTextIn(Twins::midTown, "deeds", "09abcd;19d;20a", -13, gun -> gun.deeds());
        Twins.refusedTextIn(Twins::midTown, "deeds", "09abcd;19d;", -12, gun -> gun.deeds());
        NoonGun gun = Twins.midTown();
        gun.end(0);
        Check.deeds(gun, "09abcd;19d;20a");
        Check.due("then one", Check.deeds(gun, "12b"), 1);
        Check.due("its house", gun.deed(4, 0), 1);
        Check.due("its length", gun.deed(4, 1), 2);
        Check.due("its lanes", gun.deed(4, 2), 2);
        Check.dueNoSuch("no other", () -> gun.deed(5, 0));
    }

    // ---- 6 and 7: winds, damps

    private interface Reader {
        int read(NoonGun gun, String text);
    }

    private static void promise06EndsForNone() {
        Twins.refusedText("winds", "", -1, NoonGun::winds);
    }

    private static void promise07EndsForNone() {
        Twins.refusedText("damps", "", -1, NoonGun::damps);
    }

    private static void promise06ATwentyFirstSign() {
        dueNoTwentyFirst("winds", NoonGun::winds);
    }

    private static void promise07ATwentyFirstSign() {
        dueNoTwentyFirst("damps", NoonGun::damps);
    }

    private static void dueNoTwentyFirst(String what, Twins.Call reader) {
        String[] behind = {"0", "x", times("7", 60)};
        for (String signs : behind) {
            Twins.refusedText(what, times("4", 20) + signs, -21, reader);
        }
    }

    private static void promise06WhichSignsCanStand() {
        dueDigits(NoonGun::winds);
    }

    private static void promise07WhichSignsCanStand() {
        dueDigits(NoonGun::damps);
    }

    private static void dueDigits(Twins.Call reader) {
        Check.due("the first", Twins.standing("", NoonGun::new, reader), "0123456789");
        Check.due("the twentieth", Twins.standing(times("3", 19), NoonGun::new, reader), "0123456789");
    }

    private static void promise06AFaultIsTheFirstOne() {
        dueFirstFault("winds", NoonGun::winds);
    }

    private static void promise07AFaultIsTheFirstOne() {
        dueFirstFault("damps", NoonGun::damps);
    }

    private static void dueFirstFault(String what, Twins.Call reader) {
        for (int p = 0; p < 20; p++) {
            Twins.refusedText(what, times("5", p) + ";" + times("5", 30), -1 - p, reader);
        }
    }

    private static void promise06OneSignIsEachDays() {
        dueOnDays(Check::winds, "9", 1, new int[] {0, 1, 7, 20, 99}, 9, 9, 9, 9, 9);
    }

    private static void promise07OneSignIsEachDays() {
        dueOnDays(Check::damps, "9", 0, new int[] {0, 1, 7, 20, 99}, 9, 9, 9, 9, 9);
    }

    private static final String TWENTY = "90817263540918273645";
    private static final int[] ROUND = {0, 1, 2, 19, 20, 21, 39, 40, 99};

    private static void promise06TwentyGoRound() {
        NoonGun gun = dueOnDays(Check::winds, TWENTY, 1, ROUND, 9, 0, 8, 5, 9, 0, 5, 9, 5);
        gun.days(60);
        gun.days(60);
        Check.due("day 120", gun.count(8), 9);
        gun.days(19);
        Check.due("day 139", gun.count(8), 5);
    }

    private static void promise07TwentyGoRound() {
        NoonGun gun = dueOnDays(Check::damps, TWENTY, 0, ROUND, 9, 0, 8, 5, 9, 0, 5, 9, 5);
        gun.days(60);
        gun.days(60);
        Check.due("day 120", gun.count(9), 9);
        gun.days(19);
        Check.due("day 139", gun.count(9), 5);
    }

    /** As ahead() tells them: which number of the ROW is due to be what on which days. */
    private static NoonGun dueOnDays(Reader reader, String text, int number, int[] days, int... due) {
        NoonGun gun = new NoonGun();
        Check.due("signs", reader.read(gun, text), text.length());
        for (int i = 0; i < days.length; i++) {
            gun.ahead(days[i]);
            Check.dueRow("day " + days[i], gun, number == 0 ? due[i] : 0, number == 0 ? 0 : due[i]);
        }
        return gun;
    }

    private static void promise06AShorterOneTakesItsPlace() {
        dueShorter(Check::winds, 1);
    }

    private static void promise07AShorterOneTakesItsPlace() {
        dueShorter(Check::damps, 0);
    }

    private static void dueShorter(Reader reader, int number) {
        NoonGun gun = new NoonGun();
        reader.read(gun, "12345");
        Check.due("two", reader.read(gun, "67"), 2);
        for (int day = 0; day < 6; day++) {
            gun.ahead(day);
            Check.due("day " + day, gun.row(number), 6 + day % 2);
        }
    }

    // ---- 8: rule

    private static void refusedRule(String text, int p) {
        Twins.refusedText("rule", text, -1 - p, gun -> gun.rule());
    }

    /** By how many minutes a HOUSE on 3, 7 HEARS the gun later than it GOES: d 10, w 5, m 4, n 2. */
    private static void delay(String rule, int due) {
        NoonGun gun = Check.town("37", "");
        Check.winds(gun, "5");
        Check.damps(gun, "4");
        gun.days(9);
        Check.due("rule " + rule, Check.rule(gun, rule), 0);
        Check.due("delay by " + rule, gun.house(0, 3) - 4, due);
    }

    private static void promise08AnEmptyTextIsNone() {
        NoonGun gun = Check.town("37", "");
        Check.winds(gun, "5");
        Check.rule(gun, "77");
        Check.due("empty", Check.rule(gun, ""), 0);
        Check.due("the first one again", gun.house(0, 3), 18);
        Check.due("empty once more", Check.rule(gun, ""), 0);
        Check.due("the first one still", gun.house(0, 3), 18);
    }

    private static void promise08EndsTooEarly() {
        String[] texts = {"-", "--", "(", "d+", "d-", "d*", "d/", "d<", "d>", "d=", "(d", "(d+", "((d)", "-(", "d*-", "(12"};
        for (String text : texts) {
            refusedRule(text, text.length());
        }
    }

    private static void promise08WhichSignsBegin() {
        String things = "(-0123456789demnwxy";
        String[] ahead = {"", "(", "-", "d+", "d-", "d*", "d/", "d<", "d>", "d=", "(d)+("};
        for (String text : ahead) {
            String got = Twins.standing(text, NoonGun::new, gun -> gun.rule());
            Check.due("behind " + text, sorted(got), sorted(things));
        }
    }

    private static void promise08WhichSignsGoOn() {
        String joins = "*+-/<=>";
        String digits = "0123456789";
        String some = "*+-/";
        String[][] all = {
            {"d", joins}, {"e", joins}, {"123", joins}, {"(d)", joins}, {"(1)", joins}, {"(12)", joins}, {"-d", joins},
            {"1", joins + digits}, {"12", joins + digits}, {"(d", joins + ")"}, {"(7", joins + digits + ")"},
            {"(123", joins + ")"}, {"d<w", some}, {"1=2", some + digits}, {"(d<w)", joins}, {"(d<w", some + ")"},
        };
        for (String[] of : all) {
            String got = Twins.standing(of[0], NoonGun::new, gun -> gun.rule());
            Check.due("behind " + of[0], sorted(got), sorted(of[1]));
        }
    }

    private static String sorted(String signs) {
        char[] all = signs.toCharArray();
        java.util.Arrays.sort(all);
        return new String(all);
    }

    private static void promise08FortySigns() {
        delay("d+d+d+d+d+d+d+d+d+(" + times("-", 17) + "d)+7", 90 - 10 + 7);
        delay(times("-", 38) + "17", 17);
        delay(times("-", 39) + "9", 0);
    }

    private static void promise08MoreThanForty() {
        String[] forties = {times("d+", 20), times("-", 40), times("d*", 19) + "12", times("1*", 19) + "(d",
            times("d+", 18) + "(d)+", times("1-", 18) + "x<-w"};
        String[] behind = {"d", "1", "-", ")", "*d", "!", times("\u00ff", 40)};
        for (String forty : forties) {
            for (String signs : behind) {
                refusedRuleIn(forty + signs, 40);
            }
        }
        refusedRule(forties[0] + "d", 40);
    }

    private static void promise08AFaultAheadOfForty() {
        String text = times("d+", 40);
        for (int p = 0; p < 40; p++) {
            refusedRuleIn(text.substring(0, p) + "!" + text.substring(p + 1), p);
        }
        // With its forty signs it ends too early, and that is at forty, too.
        refusedRule(times("d+", 20), 40);
    }

    private static void refusedRuleIn(String text, int p) {
        Twins.refusedTextIn(Twins::midTown, "rule", text, -1 - p, gun -> gun.rule());
    }

    private static void promise08ANumberOf1To3Digits() {
        delay("7", 7);
        delay("77", 77);
        delay("077", 77);
        delay("100/2", 50);
        delay("999/10", 99);
        delay("000", 0);
        refusedRule("1234", 3);
        refusedRule("0000", 3);
        refusedRule("d+1234", 5);
        refusedRule("(1234)", 4);
    }

    private static void promise08FourBracketsInOneAnother() {
        delay("((((d))))", 10);
        delay("(((((d)))))".substring(1, 10), 10);
        delay("((((d))))+((((w))))", 15);
        delay("(((d)+((w))))", 15);
        refusedRule("(((((d)))))", 4);
        refusedRule("((((d+(w)))))", 6);
        refusedRule("((((d))))+(((((w)))))", 14);
        refusedRule("-(-(-(-(-(", 9);
        refusedRule("(d)+(((((", 8);
    }

    private static void promise08ABracketThatIsNotOpen() {
        refusedRule(")", 0);
        refusedRule("d)", 1);
        refusedRule("(d))", 3);
        refusedRule("()", 1);
        refusedRule("(d)(d)", 3);
        refusedRule("(d)d", 3);
        refusedRule("d(d)", 1);
    }

    private static void promise08ComparingNotOneBehindTheOther() {
        refusedRule("d<w<m", 3);
        refusedRule("d=w>m", 3);
        refusedRule("d>w+m=x", 5);
        refusedRule("d+w<m*x<y", 7);
        refusedRule("(d<w<m)", 4);
        refusedRule("1<(2<3<4)", 6);
        refusedRule("(1=1)=(1=1)=1", 11);
        delay("(d<w)<m", 1);
        delay("d<(w<m)", 0);
        delay("(d>w)=(w>m)", 1);
        delay("(1<2)+(2<3)+(3<4)", 3);
        delay("1<(2<(3<4))", 0);
    }

    private static void promise08ComparedAlike() {
        delay("d<10", 0);
        delay("d<11", 1);
        delay("d>10", 0);
        delay("d>9", 1);
        delay("d=10", 1);
        delay("d=9", 0);
        delay("d=11", 0);
        delay("0-1<0", 1);
        delay("0>0-1", 1);
    }

    private static void promise08By0Is0() {
        delay("d/0", 0);
        delay("7+d/0", 7);
        delay("7+d/(w-5)", 7);
        delay("0/0+3", 3);
        delay("9-d/0*5", 9);
        delay("-d/0+1", 1);
    }

    private static void promise08CutTo0() {
        delay("7/2", 3);
        delay("-7/2+10", 7);
        delay("7/-2+10", 7);
        delay("-7/-2", 3);
        delay("-1/2+1", 1);
        delay("10-7/2", 7);
    }

    private static void promise08BindsFromTheLeft() {
        delay("9-4-3", 2);
        delay("9-4+3", 8);
        delay("99/9/2", 5);
        delay("8/3*3", 6);
        delay("3*8/3", 8);
        delay("2+3*4", 14);
        delay("2*3+4", 10);
        delay("3<2+2", 1);
        delay("2+2<3", 0);
        delay("4+(3<2)", 4);
    }

    private static void promise08AnyManyMinusesAhead() {
        delay("--d", 10);
        delay("---d+20", 10);
        delay("20--d", 30);
        delay("20---d", 10);
        delay("2*-3+20", 14);
        delay("2*--3", 6);
        delay("-(d-12)", 2);
        delay("--(d)", 10);
        delay("-w*-w", 25);
    }

    private static void promise08DelayIs0To99() {
        delay("0-1", 0);
        delay("-999*999", 0);
        delay("0", 0);
        delay("1", 1);
        delay("98", 98);
        delay("99", 99);
        delay("100", 99);
        delay("999*999", 99);
    }

    private static void promise08IntsGoRound() {
        // 999 * 999 * 9 * 239 is 2146700151; by 240 it goes round to below 0.
        delay("999*999*9*239>0", 1);
        delay("999*999*9*240", 0);
        delay("999*999*9*240<0", 1);
        delay("(999*999*9*239+999*999<0)*5", 5);
        // 65536 * 32768 is the least int, which is its own -, and by -1 it is itself.
        delay("256*256*256*128<0", 1);
        delay("-(256*256*256*128)<0", 1);
        delay("256*256*256*128/-1<0", 1);
        delay("256*256*256*128/(0-1)<0", 1);
        delay("256*256*256*128-1>0", 1);
        delay("256*256*256*256=0", 1);
    }

    private static void promise08DaysGoRoundBy7() {
        NoonGun gun = Check.town("37", "");
        Check.rule(gun, "n");
        for (int day = 0; day < 16; day++) {
            Check.due("day " + day, gun.house(0, 3), day % 7);
            gun.days(1);
        }
    }

    private static void promise08ThingsOfTheBang() {
        delay("d", 10);
        delay("w", 5);
        delay("m", 4);
        delay("x", 3);
        delay("y", 7);
        delay("n", 2);
        delay("e", 0);
    }

    private static void promise08TheEchoIs1() {
        NoonGun gun = Check.town("37", "");
        Check.rule(gun, "e");
        Check.due("the gun", gun.house(0, 3), 0);
        Check.due("the echo", gun.house(0, 4), 1);
    }

    private static void promise08RefusedTheRuleStays() {
        NoonGun gun = Check.town("37", "");
        Check.rule(gun, "d+70");
        String[] texts = {"z", "1+", "(1", "1234", "1<2<3", times("-", 41)};
        for (String text : texts) {
            Check.due("refused " + text, Check.rule(gun, text) < 0, true);
            Check.due("as it was", gun.house(0, 3), 80);
        }
    }

    // ---- 9: house

    private static void promise09NoneSuch() {
        for (int house : new int[] {8, 9, -1, LEAST, MOST}) {
            Twins.throwsNoSuch("house " + house, gun -> gun.house(house, 0));
        }
        Twins.throwsNoSuchIn(NoonGun::new, "house 0 of none", gun -> gun.house(0, 0));
        Twins.throwsNoSuchIn(Twins::midTown, "house 3 of three", gun -> gun.house(3, 5));
        Twins.throwsNoSuchIn(Twins::midTown, "house 7 of three", gun -> gun.house(7, 3));
    }

    private static void promise09AnotherWhat() {
        for (int what : new int[] {6, -1, LEAST, MOST}) {
            Twins.throwsNoSuch("what " + what, gun -> gun.house(0, what));
        }
    }

    private static void promise09TheFirstAndTheLastHouse() {
        NoonGun gun = Check.town("19;22;33;44;55;66;77;82", "");
        Check.due("x of the first", gun.house(0, 0), 1);
        Check.due("y of the first", gun.house(0, 1), 9);
        Check.due("x of the last", gun.house(7, 0), 8);
        Check.due("y of the last", gun.house(7, 1), 2);
    }

    private static void promise09NoDeedsThereAndAll() {
        NoonGun gun = Check.town("11;22", "11a;12a;13a;14a;15a;16a;17a;18a");
        Check.due("none", gun.house(0, 5), 0);
        Check.due("all", gun.house(1, 5), 255);
    }

    private static void promise09TheLatestMinute() {
        NoonGun gun = Check.town("99", "");
        Check.damps(gun, "9");
        Check.rule(gun, "999");
        Check.due("hears", gun.house(0, 3), 108);
        Check.due("echo", gun.house(0, 4), 108);
        gun.days(1);
        Check.due("watch", gun.house(0, 2), 108);
    }

    private static void promise09ItChangesNothing() {
        for (int what = 0; what <= 5; what++) {
            int w = what;
            dueUnchanged("house, what " + w, gun -> gun.house(1, w));
        }
    }

    /** The full town asks its HOUSES itself when it is made, so the other one tells more. */
    private static void dueUnchanged(String what, Twins.Call call) {
        Twins.unchanged(what, Twins::midTown, () -> Twins.called(Twins::midTown, call));
        Twins.unchanged(what, Twins::fullTown, () -> Twins.called(Twins::fullTown, call));
    }

    // ---- 10: deed

    private static void promise10NoneSuch() {
        for (int deed : new int[] {8, 9, -1, LEAST, MOST}) {
            Twins.throwsNoSuch("deed " + deed, gun -> gun.deed(deed, 0));
        }
        Twins.throwsNoSuchIn(NoonGun::new, "deed 0 of none", gun -> gun.deed(0, 0));
        Twins.throwsNoSuchIn(Twins::midTown, "deed 4 of four", gun -> gun.deed(4, 4));
        Twins.throwsNoSuchIn(Twins::midTown, "deed 7 of four", gun -> gun.deed(7, 3));
    }

    private static void promise10AnotherWhat() {
        for (int what : new int[] {5, -1, LEAST, MOST}) {
            Twins.throwsNoSuch("what " + what, gun -> gun.deed(0, what));
        }
    }

    private static void promise10OneThatEndsAt5HasFourAsItsLast() {
        NoonGun gun = Check.town("00;05", "05a;11a");
        Check.rule(gun, "d");
        Check.due("begins at 5", gun.deed(1, 3), 5);
        Check.due("no clash", gun.deed(0, 4), 0);
        Check.due("nor back", gun.deed(1, 4), 0);
        gun.moves(1, 0, 4);
        Check.due("at 4 they do", gun.deed(0, 4), 2);
        Check.due("and back", gun.deed(1, 4), 1);
    }

    private static void promise10NoLaneInCommon() {
        NoonGun gun = Check.town("00", "09ab;09cd;09bc");
        Check.due("with the third alone", gun.deed(0, 4), 4);
        Check.due("likewise", gun.deed(1, 4), 4);
        Check.due("with both", gun.deed(2, 4), 3);
    }

    private static void promise10ClashesWithAllOthers() {
        NoonGun gun = Check.town("00", EIGHT_DEEDS);
        for (int deed = 0; deed < 8; deed++) {
            Check.due("not with itself", gun.deed(deed, 4), 255 - (1 << deed));
        }
    }

    private static void promise10WithoutPowderToo() {
        NoonGun gun = Check.smallTown();
        gun.days(60);
        Check.due("begins", gun.deed(1, 3), 4);
        Check.due("clashes", gun.deed(1, 4), 1);
    }

    private static void promise10ItChangesNothing() {
        for (int what = 0; what <= 4; what++) {
            int w = what;
            dueUnchanged("deed, what " + w, gun -> gun.deed(1, w));
        }
    }

    // ---- 11: sheet

    private static final int[] NO_KIND = {-1, 4, LEAST, MOST};

    private static void promise11AnotherKind() {
        for (int kind : NO_KIND) {
            Twins.refused("kind " + kind, -1, gun -> gun.sheet(kind, 4, 5, 1));
        }
    }

    private static void promise11AnotherKindIsFirst() {
        for (int kind : NO_KIND) {
            Twins.refused("kind " + kind + " below 0", -1, gun -> gun.sheet(kind, -1, 5, 1));
            Twins.refused("kind " + kind + " above 8", -1, gun -> gun.sheet(kind, 9, 5, 1));
        }
    }

    private static void promise11MoreThanEight() {
        for (int kind = 0; kind <= 3; kind++) {
            int k = kind;
            Twins.refused("9 of kind " + k, -1, gun -> gun.sheet(k, 9, 5, 1));
            Twins.refused("most of kind " + k, -1, gun -> gun.sheet(k, MOST, 5, 1));
        }
    }

    private static void promise11BelowZeroChangesNothing() {
        for (int kind = 0; kind <= 2; kind++) {
            int k = kind;
            Twins.refused("-1 of kind " + k, -2, gun -> gun.sheet(k, -1, 5, 1));
            Twins.refused("least of kind " + k, -2, gun -> gun.sheet(k, LEAST, 5, 1));
        }
    }

    private static void promise11MissingIsAll1() {
        for (int n : new int[] {8, 0, -1, LEAST}) {
            NoonGun gun = Check.smallTown();
            Check.due("missing, " + n, gun.sheet(3, n, 7, 1), -3);
            dueLengths(gun, 1, 1, 1, 1);
        }
        Check.due("no deeds", new NoonGun().sheet(3, 0, 0, 0), -3);
    }

    private static void dueLengths(NoonGun gun, int... lengths) {
        for (int deed = 0; deed < lengths.length; deed++) {
            Check.due("length " + deed, gun.deed(deed, 1), lengths[deed]);
        }
        Check.due("deeds", gun.count(1), lengths.length);
    }

    private static void promise11NoEntries() {
        for (int kind = 0; kind <= 2; kind++) {
            NoonGun gun = Check.smallTown();
            Check.due("none", gun.sheet(kind, 0, 7, 1), 4);
            dueLengths(gun, 1, 1, 1, 1);
        }
    }

    private static void promise11NoDeeds() {
        for (int kind = 0; kind <= 2; kind++) {
            Check.due("kind " + kind, new NoonGun().sheet(kind, 0, 7, 1), 0);
            Check.due("eight of kind " + kind, new NoonGun().sheet(kind, 8, 7, 1), 0);
        }
    }

    private static void promise11EntriesForEightDeeds() {
        NoonGun gun = Twins.fullTown();
        Check.due("eight", gun.sheet(2, 8, 1, 1), 36);
        dueLengths(gun, 1, 2, 3, 4, 5, 6, 7, 8);
        Check.due("seven", gun.sheet(2, 7, 8, -1), 36);
        dueLengths(gun, 8, 7, 6, 5, 4, 3, 2, 1);
    }

    private static void promise11ThoseBehindHave1() {
        NoonGun gun = Check.smallTown();
        Check.due("one", gun.sheet(2, 1, 9, 0), 12);
        dueLengths(gun, 9, 1, 1, 1);
    }

    private static void promise11MoreEntriesThanDeeds() {
        NoonGun gun = Check.smallTown();
        Check.due("eight", gun.sheet(2, 8, 3, 0), 12);
        dueLengths(gun, 3, 3, 3, 3);
        Check.deeds(gun, "05a");
        dueLengths(gun, 3, 3, 3, 3, 5);
    }

    private static void promise11PutTo1To9() {
        for (int kind = 0; kind <= 2; kind++) {
            NoonGun gun = Check.smallTown();
            Check.due("0", gun.sheet(kind, 4, 0, 0), 4);
            Check.due("1", gun.sheet(kind, 4, 1, 0), 4);
            Check.due("-1", gun.sheet(kind, 4, -1, 0), 4);
            Check.due("9", gun.sheet(kind, 4, 9, 0), 36);
            Check.due("10", gun.sheet(kind, 4, 10, 0), 36);
            Check.due("8", gun.sheet(kind, 4, 8, 0), 32);
        }
    }

    private static void promise11BytesGoRound() {
        NoonGun gun = Check.smallTown();
        gun.sheet(0, 4, 127, 1);
        dueLengths(gun, 9, 1, 1, 1);
        gun.sheet(0, 4, 255, 1);
        dueLengths(gun, 1, 1, 1, 2);
        gun.sheet(0, 4, 256 + 5, 256);
        dueLengths(gun, 5, 5, 5, 5);
        gun.sheet(0, 4, -256 + 3, 128);
        dueLengths(gun, 3, 1, 3, 1);
        gun.sheet(0, 4, LEAST + 7, 0x7FFFFF00);
        dueLengths(gun, 7, 7, 7, 7);
    }

    private static void promise11ShortsGoRound() {
        NoonGun gun = Check.smallTown();
        gun.sheet(1, 4, 32767, 1);
        dueLengths(gun, 9, 1, 1, 1);
        gun.sheet(1, 4, 65535, 1);
        dueLengths(gun, 1, 1, 1, 2);
        gun.sheet(1, 4, 65536 + 5, 65536);
        dueLengths(gun, 5, 5, 5, 5);
        gun.sheet(1, 4, -65536 + 3, 32768);
        dueLengths(gun, 3, 1, 3, 1);
        gun.sheet(1, 4, 128, 127);
        dueLengths(gun, 9, 9, 9, 9);
    }

    private static void promise11IntsGoRound() {
        NoonGun gun = Check.smallTown();
        gun.sheet(2, 4, MOST, 1);
        dueLengths(gun, 9, 1, 1, 1);
        gun.sheet(2, 4, -1, 1);
        dueLengths(gun, 1, 1, 1, 2);
        gun.sheet(2, 4, 65536, 32768);
        dueLengths(gun, 9, 9, 9, 9);
        gun.sheet(2, 4, 4, LEAST);
        dueLengths(gun, 4, 1, 4, 1);
        gun.sheet(2, 4, LEAST, MOST);
        // LEAST, -1, LEAST - 2 + .., by MOST three times: LEAST, -1, 2147483646, -3.
        dueLengths(gun, 1, 1, 9, 1);
    }

    private static void promise11ItChangesLengthsAlone() {
        NoonGun gun = Check.smallTown();
        gun.order();
        gun.sheet(2, 4, 3, 5);
        Check.dueRow("the row stays", gun, 0, 1, 2, 3);
        Check.due("no undo of it", gun.undo(), -1);
        dueLengths(gun, 3, 8, 9, 9);
    }

    private static void promise11TheSameLengthsChangeNothing() {
        Twins.Town rising = () -> Twins.lived(Check.town("00;11", "01a;12b;03c;14d;05a;16b;07c;18d"));
        for (int kind = 0; kind <= 2; kind++) {
            int k = kind;
            Twins.refusedIn(rising, "kind " + k, 36, gun -> gun.sheet(k, 8, 1, 1));
        }
        Twins.Town ones = () -> Twins.lived(Check.town("00;11", "01a;11b;01c;11d"));
        Twins.refusedIn(ones, "missing", -3, gun -> gun.sheet(3, 0, 0, 0));
        Twins.refusedIn(ones, "none", 4, gun -> gun.sheet(2, 0, 7, 7));
    }
}

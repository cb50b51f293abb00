/** Boundary cases of promises 35 to 49, each with a test of its own. */
public final class EdgesOfGuessesTest {
    private static final int LEAST = Integer.MIN_VALUE;
    private static final int MOST = Integer.MAX_VALUE;

    public static void main(String[] args) {
        Edges.run(EdgesOfGuessesTest.class, 35, 49);
    }

    // ---- 35: heard

    private static void promise35NoneSuch() {
        for (int house : new int[] {-1, 8, LEAST, MOST}) {
            Twins.refused("house " + house, -1, gun -> gun.heard(house, 5));
        }
        Twins.refusedIn(NoonGun::new, "house 0 of none", -1, gun -> gun.heard(0, 5));
        Twins.refusedIn(Twins::midTown, "house 3 of three", -1, gun -> gun.heard(3, 5));
    }

    private static void promise35AnotherMinute() {
        for (int v : new int[] {-1, 200, LEAST, MOST}) {
            Twins.refused("minute " + v, -1, gun -> gun.heard(0, v));
        }
    }

    private static void promise35TheFirstAndTheLastMinute() {
        NoonGun gun = Twins.midTown();
        Check.due("0", gun.heard(0, 0), 2);
        Check.due("199", gun.heard(2, 199), 3);
    }

    private static void promise35TheFirstAndTheLastHouse() {
        NoonGun gun = Check.town("00;11;22;33;44;55;66;77", "", "d");
        Check.due("the last", gun.heard(7, 14), 1);
        Check.due("it fits", gun.fits(), 10);
        Check.due("the first", gun.heard(0, 0), 2);
        Check.due("both fit", gun.fits(), 10);
        Check.due("the last otherwise", gun.heard(7, 13), 3);
        Check.due("it does not fit", gun.fits(), 0);
    }

    private static void promise35TenAreAllOfThem() {
        NoonGun gun = Check.smallTown();
        for (int i = 1; i <= 10; i++) {
            Check.due("heard", gun.heard(0, 2), i);
        }
        Check.due("an eleventh", gun.heard(0, 2), -1);
        Check.due("ten", gun.count(10), 10);
        Check.due("they fit", gun.fits(), 10);
        Twins.refusedIn(Twins::fullTown, "an eleventh", -1, g -> g.heard(0, 199));
        Twins.refusedIn(Twins::fullTown, "an eleventh, none such", -1, g -> g.heard(8, 199));
    }

    private static void promise35TheTenthTellsToo() {
        NoonGun gun = Check.smallTown();
        for (int i = 1; i <= 9; i++) {
            gun.heard(0, 2);
        }
        gun.heard(0, 199);
        Check.due("it does not fit", gun.fits(), 0);
    }

    private static void promise35RefusedIsNotHeard() {
        NoonGun gun = Check.smallTown();
        gun.heard(0, 200);
        gun.heard(3, 2);
        gun.heard(-1, -1);
        Check.due("none", gun.count(10), 0);
        Check.due("all fit", gun.fits(), 100);
    }

    // ---- 36: forget

    private static void promise36None() {
        Twins.refusedIn(NoonGun::new, "forget", 0, gun -> gun.forget());
        Twins.refusedIn(Check::smallTown, "forget", 0, gun -> gun.forget());
    }

    private static void promise36AllTen() {
        NoonGun gun = Twins.fullTown();
        Check.due("ten", gun.forget(), 10);
        Check.due("none", gun.count(10), 0);
        Check.due("none more", gun.forget(), 0);
        Check.due("all fit", gun.fits(), 100);
        Check.due("anew", gun.heard(0, 0), 1);
    }

    private static void promise36NothingElseIsForgotten() {
        Twins.unchanged("forget", EdgesOfGuessesTest::forgotten, EdgesOfGuessesTest::heardAndForgotten);
    }

    private static NoonGun forgotten() {
        NoonGun gun = Twins.midTown();
        gun.forget();
        return gun;
    }

    private static NoonGun heardAndForgotten() {
        NoonGun gun = forgotten();
        gun.heard(0, 3);
        gun.heard(2, 7);
        gun.heard(0, 199);
        gun.forget();
        return gun;
    }

    // ---- 37: fits

    private static void promise37NothingHeard() {
        NoonGun gun = new NoonGun();
        Check.due("all", gun.fits(), 100);
        Check.dueRow("the least", gun, 0, 0);
    }

    private static void promise37NoneFits() {
        NoonGun gun = Check.smallTown();
        gun.days(1);
        gun.heard(0, 199);
        Check.due("none", gun.fits(), 0);
        Check.dueRow("nothing without", gun);
    }

    private static void promise37TheLastPairAlone() {
        NoonGun gun = Check.town("00", "", "m*10+w");
        gun.heard(0, 9 + 99);
        Check.due("one", gun.fits(), 1);
        Check.dueRow("9, 9", gun, 9, 9);
    }

    private static void promise37TheFirstPairAlone() {
        NoonGun gun = Check.town("00", "", "m*10+w");
        gun.heard(0, 0);
        Check.due("one", gun.fits(), 1);
        Check.dueRow("0, 0", gun, 0, 0);
    }

    private static void promise37TheLatestMinute() {
        NoonGun gun = Check.town("00", "", "999");
        gun.heard(0, 108);
        Check.due("by damp 9", gun.fits(), 10);
        Check.dueRow("by damp 9", gun, 9, 0);
        gun.forget();
        gun.heard(0, 109);
        Check.due("never", gun.fits(), 0);
    }

    private static void promise37ItIsNoEcho() {
        NoonGun gun = Check.town("00", "", "e");
        gun.heard(0, 0);
        Check.due("damp 0", gun.fits(), 10);
        Check.dueRow("damp 0", gun, 0, 0);
    }

    private static void promise37TheSameHouseAtTwoMinutes() {
        NoonGun gun = Check.town("00", "", "d");
        gun.heard(0, 3);
        Check.due("one minute", gun.fits(), 10);
        gun.heard(0, 4);
        Check.due("two minutes", gun.fits(), 0);
    }

    private static void promise37AsItIsWhenAsked() {
        NoonGun gun = Check.town("05", "", "d+n");
        gun.heard(0, 5);
        Check.due("damp 0", gun.fits(), 10);
        gun.days(1);
        Check.due("of day 1", gun.fits(), 0);
        gun.hauls(0, 1);
        Check.due("the gun is nearer", gun.fits(), 10);
        gun.moves(0, 0, 4);
        Check.due("the house is nearer, damp 1", gun.fits(), 10);
        Check.dueRow("damp 1", gun, 1, 0);
        Check.damps(gun, "7");
        Check.winds(gun, "7");
        Check.due("damp and wind aside", gun.fits(), 10);
        Check.rule(gun, "w");
        Check.due("by another rule", gun.fits(), 6);
        Check.dueRow("by another rule", gun, 0, 5);
    }

    private static void promise37ItChangesNothing() {
        Twins.asksAlone("fits", gun -> gun.fits());
    }

    // ---- 38: asks

    private static void promise38NoHouses() {
        Twins.refusedIn(() -> Twins.lived(new NoonGun()), "no houses", -2, gun -> gun.asks());
    }

    private static void promise38NoneFits() {
        // In a town that lived, the first HOUSE tells of minute 199.
        Twins.refusedIn(() -> Twins.lived(Check.smallTown()), "none fits", -2, gun -> gun.asks());
    }

    private static void promise38NothingHeard() {
        NoonGun gun = Check.town("00", "", "0");
        Check.due("the one", gun.asks(), 0);
        Check.dueRow("ten of each damp", gun, 10);
    }

    private static void promise38OfEqualOnesTheFirst() {
        NoonGun gun = Check.town("00;11;22;33;44;55;66;77", "", "d");
        Check.due("the first", gun.asks(), 0);
        Check.dueRow("the first", gun, 10);
    }

    private static void promise38TheLastHouse() {
        NoonGun gun = Check.town("00;11;22;33;44;55;66;77", "", "(x=7)*(m*10+w)");
        Check.due("the last", gun.asks(), 7);
        Check.dueRow("one is left", gun, 1);
    }

    private static void promise38OneFits() {
        NoonGun gun = Check.town("00;11", "", "(x=0)*(m*10+w)");
        gun.heard(0, 5 + 57);
        Check.due("the first", gun.asks(), 0);
        Check.dueRow("one is left", gun, 1);
    }

    private static void promise38NoHouseTellsMore() {
        NoonGun gun = Check.town("00;11", "", "9-m");
        Check.due("the first", gun.asks(), 0);
        Check.dueRow("all are left", gun, 100);
    }

    private static void promise38ItChangesNothing() {
        Twins.asksAlone("asks", gun -> gun.asks());
    }

    // ---- 39: menders

    private static void promise39AnotherV() {
        for (int v : new int[] {-1, 19, LEAST, MOST}) {
            Twins.refused("menders " + v, -1, gun -> gun.menders(v));
        }
    }

    private static void promise39NoHouses() {
        NoonGun gun = Check.dayOldTown();
        Check.due("none", gun.menders(0), 0);
        Check.dueRow("none", gun, 0);
        Check.due("none of 18", gun.menders(18), 0);
    }

    private static void promise39Of0() {
        NoonGun gun = Check.town("00;11;22;33;44;55;66;77", "");
        Check.due("each", gun.menders(0), 8);
        Check.dueRow("each", gun, 255);
        gun = Check.town("00;00;22;00;22;22;00;22", "");
        Check.due("one of each place", gun.menders(0), 2);
        Check.dueRow("the first ones", gun, 5);
    }

    private static void promise39Of18() {
        NoonGun gun = Check.town("00;99", "");
        Check.due("one", gun.menders(18), 1);
        Check.dueRow("the first", gun, 1);
        Check.due("two of 17", gun.menders(17), 2);
        Check.dueRow("both", gun, 3);
    }

    private static void promise39JustSoFar() {
        NoonGun gun = Check.town("00;25", "");
        Check.due("7", gun.menders(7), 1);
        Check.due("6", gun.menders(6), 2);
    }

    private static void promise39OfAsFewTheLeastBits() {
        NoonGun gun = Check.town("00;01;02;03;04;05;06;07", "");
        Check.due("three of 1", gun.menders(1), 3);
        // HOUSES 0 and 1 by 0, 2 to 4 by 3, 5 to 7 by 6.
        Check.dueRow("three of 1", gun, 1 + 8 + 64);
        Check.due("one of 4", gun.menders(4), 1);
        Check.dueRow("one of 4", gun, 8);
        gun = Check.town("00;02;01", "");
        Check.due("the last one alone", gun.menders(1), 1);
        Check.dueRow("the last one alone", gun, 4);
    }

    private static void promise39ItChangesNothing() {
        Twins.asksAlone("menders", gun -> gun.menders(3));
    }

    // ---- 40: apart

    private static void promise40FewerThanTwo() {
        Twins.refusedIn(() -> Twins.lived(new NoonGun()), "none", -2, gun -> gun.apart());
        Twins.refusedIn(() -> Twins.lived(Check.town("55", "01a")), "one", -2, gun -> gun.apart());
    }

    private static void promise40Two() {
        NoonGun gun = Check.town("05;01", "", "d");
        Check.due("alike", gun.apart(), 0);
        Check.dueRow("both", gun, 0, 1);
        gun.days(1);
        Check.due("4", gun.apart(), 4);
        Check.dueRow("the lesser first", gun, 0, 1);
    }

    private static void promise40AllAlike() {
        NoonGun gun = Check.town("00;11;22;33;44;55;66;77", "");
        Check.due("0", gun.apart(), 0);
        Check.dueRow("the least row", gun, 0, 1);
    }

    private static void promise40OfLikeOnesTheLeastRow() {
        NoonGun gun = Check.town("03;00;05;00;05", "", "d");
        gun.days(1);
        Check.due("5", gun.apart(), 5);
        Check.dueRow("the least row", gun, 1, 2);
    }

    private static void promise40TheLastTwo() {
        NoonGun gun = Check.town("05;05;05;05;05;05;00;09", "", "d");
        gun.days(1);
        Check.due("9", gun.apart(), 9);
        Check.dueRow("the last two", gun, 6, 7);
    }

    private static void promise40TheMost() {
        NoonGun gun = Check.town("00;09", "", "d*99");
        Check.damps(gun, "9");
        gun.days(1);
        Check.due("99", gun.apart(), 99);
    }

    private static void promise40ItChangesNothing() {
        Twins.asksAlone("apart", gun -> gun.apart());
    }

    // ---- 41: misfires

    private static void promise41AnotherN() {
        for (int n : new int[] {0, -1, 16, LEAST, MOST}) {
            Twins.refused("n " + n, -1, gun -> gun.misfires(n, 1, 1));
        }
    }

    private static void promise41AnotherK() {
        for (int k : new int[] {0, -1, 16, LEAST, MOST}) {
            Twins.refused("k " + k, -1, gun -> gun.misfires(15, k, 1));
        }
    }

    private static void promise41AnotherP() {
        for (int p : new int[] {-1, 11, LEAST, MOST}) {
            Twins.refused("p " + p, -1, gun -> gun.misfires(2, 2, p));
        }
    }

    private static void misfires(int n, int k, int p, long upper, long lower) {
        NoonGun gun = new NoonGun();
        Check.due("answer", gun.misfires(n, k, p), 0);
        Check.dueRow("of " + n + ", " + k + ", " + p, gun, upper, lower);
    }

    private static void promise41Never() {
        for (int n = 1; n <= 15; n++) {
            misfires(n, 1, 0, 1, 1);
            misfires(n, 15, 0, 1, 1);
        }
    }

    private static void promise41Always() {
        for (int n = 1; n <= 15; n++) {
            misfires(n, n, 10, 0, 1);
            misfires(n, 1, 10, 0, 1);
        }
    }

    private static void promise41FewerShotsThanK() {
        for (int n = 1; n <= 14; n++) {
            misfires(n, n + 1, 10, 1, 1);
            misfires(n, 15, 5, 1, 1);
        }
    }

    private static void promise41AsManyShotsAsK() {
        misfires(1, 1, 1, 9, 10);
        misfires(1, 1, 9, 1, 10);
        misfires(2, 2, 9, 19, 100);
        misfires(15, 15, 1, 999999999999999L, 1000000000000000L);
        misfires(15, 15, 5, 32767, 32768);
    }

    private static void promise41InLowestTerms() {
        misfires(1, 1, 5, 1, 2);
        misfires(1, 1, 2, 4, 5);
        misfires(1, 1, 8, 1, 5);
        misfires(2, 2, 5, 3, 4);
        misfires(15, 1, 5, 1, 32768);
        misfires(15, 1, 9, 1, 1000000000000000L);
        misfires(15, 1, 1, 205891132094649L, 1000000000000000L);
    }

    private static void promise41AskedAnew() {
        NoonGun gun = new NoonGun();
        gun.misfires(15, 15, 9);
        gun.misfires(1, 15, 3);
        Check.dueRow("one shot behind fifteen", gun, 1, 1);
        gun.misfires(2, 2, 9);
        Check.dueRow("two shots", gun, 19, 100);
    }

    private static void promise41ItChangesNothing() {
        Twins.asksAlone("misfires", gun -> gun.misfires(15, 3, 4));
    }

    // ---- 42: forts

    private static void promise42OtherHeaps() {
        for (int v : new int[] {-1, 21, LEAST, MOST}) {
            Twins.refused("first heap " + v, -1, gun -> gun.forts(v, 0));
            Twins.refused("second heap " + v, -1, gun -> gun.forts(0, v));
            Twins.refused("both " + v, -1, gun -> gun.forts(v, v));
        }
    }

    private static void promise42ThereAreNone() {
        Twins.refused("none", -2, gun -> gun.forts(0, 0));
    }

    private static void promise42TheLastBallIsLost() {
        dueLost(1, 0);
        dueLost(0, 1);
    }

    private static void dueLost(int a, int b) {
        NoonGun gun = Check.dayOldTown();
        Check.due("lost " + a + ", " + b, gun.forts(a, b), 0);
        Check.dueRow("nothing without", gun);
    }

    private static void dueWon(int a, int b, int first, int second) {
        NoonGun gun = Check.dayOldTown();
        Check.due("won " + a + ", " + b, gun.forts(a, b), 1);
        Check.dueRow("won " + a + ", " + b, gun, first, second);
    }

    private static void promise42OneHeap() {
        for (int balls = 2; balls <= 20; balls++) {
            dueWon(balls, 0, balls - 1, 0);
            dueWon(0, balls, 0, balls - 1);
        }
    }

    private static void promise42TheLeastMove() {
        dueWon(1, 1, 0, 1);
        dueWon(2, 1, 1, 1);
        dueWon(1, 2, 0, 2);
        dueWon(3, 3, 1, 1);
        dueWon(20, 2, 18, 0);
        dueWon(2, 20, 0, 18);
    }

    /** By trying all moves of all heaps, from the least on. */
    private static void promise42AllHeaps() {
        boolean[][] wins = new boolean[21][21];
        wins[0][0] = true;
        for (int a = 0; a <= 20; a++) {
            for (int b = a == 0 ? 1 : 0; b <= 20; b++) {
                int[] move = winning(wins, a, b);
                wins[a][b] = move != null;
                if (move == null) {
                    dueLost(a, b);
                } else {
                    dueWon(a, b, move[0], move[1]);
                }
            }
        }
    }

    private static int[] winning(boolean[][] wins, int a, int b) {
        for (int first = 0; first <= a; first++) {
            for (int second = first == 0 ? 1 : 0; second <= b; second++) {
                boolean isMove = first == 0 || second == 0 || first == 1 && second == 1;
                if (isMove && !wins[a - first][b - second]) {
                    return new int[] {first, second};
                }
            }
        }
        return null;
    }

    private static void promise42ItChangesNothing() {
        Twins.asksAlone("forts won", gun -> gun.forts(7, 20));
        Twins.asksAlone("forts lost", gun -> gun.forts(2, 2));
    }

    // ---- 43: law

    private static void refusedLaw(String text, int p) {
        Twins.refusedText("law", text, -10000 - p, gun -> gun.law());
    }

    private static void promise43ASignThatCannotStand() {
        refusedLaw("z", 0);
        refusedLaw("d*", 2);
        refusedLaw("(d", 2);
        refusedLaw("1234", 3);
        refusedLaw("1<2<3", 3);
        refusedLaw("(((((d)))))", 4);
        refusedLaw("d)", 1);
        refusedLaw("d w", 1);
    }

    private static void promise43MoreThanForty() {
        refusedLaw("d+".repeat(20) + "d", 40);
        refusedLaw("-".repeat(80), 40);
        refusedLaw("d+".repeat(19) + "12!", 40);
        refusedLaw("d+".repeat(20), 40);
    }

    private static void promise43FortySigns() {
        NoonGun gun = Check.town("00", "");
        Check.due("forty", Check.law(gun, "-".repeat(38) + "17"), 0);
        Check.dueRow("forty", gun, 0, 0, 17);
    }

    private static void promise43AnEmptyTextIsNone() {
        NoonGun gun = Check.town("10;02;55", "03a;12ab;25b;24c", "99");
        Check.due("empty", Check.law(gun, ""), -1);
        Check.dueRow("by the first rule", gun, 1, 2, 2, 4, 20);
        Check.due("the rule stays", gun.house(0, 3), 99);
    }

    private static void promise43NoHouses() {
        NoonGun gun = new NoonGun();
        Check.due("none", Check.law(gun, "5"), 0);
        Check.dueRow("none", gun, 0, 0);
    }

    private static void promise43EightHouses() {
        NoonGun gun = Check.town("00;01;02;03;04;05;06;07", "", "0");
        Check.damps(gun, "9");
        Check.due("none clash", Check.law(gun, "y*99"), 0);
        Check.dueRow("eight", gun, 0, 0, 9, 108, 108, 108, 108, 108, 108, 108);
    }

    private static void promise43BelowZero() {
        NoonGun gun = Check.town("00;01", "09a;09a;09a;09a;19a;19a;19a;19a", "0");
        Check.due("16 fewer", Check.law(gun, "y*9"), -16);
        Check.dueRow("16 fewer", gun, 12, 28, 0, 9);
        Check.rule(gun, "y*9");
        Check.due("16 more", Check.law(gun, "0"), 16);
        Check.dueRow("16 more", gun, 28, 12, 0, 0);
        Check.due("as many", Check.law(gun, "y*9"), 0);
    }

    private static void promise43TheTextIsEmptied() {
        NoonGun gun = Check.smallTown();
        Check.law(gun, "5");
        Check.due("none", gun.count(13), 0);
    }

    private static void promise43ItChangesNothing() {
        for (Twins.Town town : Twins.TOWNS) {
            Twins.Town ahead = () -> Twins.told(town, "d+7");
            Twins.sameButRow("law", () -> Twins.told(town, ""), () -> Twins.called(ahead, NoonGun::law));
        }
    }

    // ---- 44: rests

    private static void promise44AnotherV() {
        for (int v : new int[] {-1, 21, LEAST, MOST}) {
            Twins.refused("rests " + v, -1, gun -> gun.rests(v));
        }
    }

    /** By trying all other numbers of either ship. */
    private static void promise44From0To20() {
        for (int v = 0; v <= 20; v++) {
            int many = 0;
            int least = -1;
            for (int pair = 99; pair >= 0; pair--) {
                if (isAtRest(v, pair / 10, pair % 10) && isAtRest(v, pair % 10, pair / 10)) {
                    many++;
                    least = pair;
                }
            }
            NoonGun gun = new NoonGun();
            Check.due("rests " + v, gun.rests(v), many);
            Check.dueRow("rests " + v, gun, least / 10, least % 10);
        }
    }

    private static boolean isAtRest(int v, int own, int other) {
        for (int instead = 0; instead <= 9; instead++) {
            if (has(v, instead, other) > has(v, own, other)) {
                return false;
            }
        }
        return true;
    }

    private static int has(int v, int own, int other) {
        int has = other >= own ? v - own : -own;
        return own < other ? has - 2 : has;
    }

    private static void promise44ItChangesNothing() {
        Twins.asksAlone("rests", gun -> gun.rests(20));
    }

    // ---- 45: years

    private static void promise45AnotherN() {
        for (int n : new int[] {0, -1, 61, LEAST, MOST}) {
            Twins.refused("years " + n, -1, gun -> gun.years(7, n));
        }
    }

    /** The same by days(), hauls() and moves() of a town like it, draw by draw. */
    private static void dueYears(Twins.Town town, int seed, int n) {
        NoonGun like = town.make();
        long r = seed & 0xFFFFFFFFL;
        long pairs = 0;
        long mute = 0;
        for (int i = 0; i < n; i++) {
            int[] draws = new int[4];
            long[] rs = new long[4];
            for (int k = 0; k < 4; k++) {
                r = (r * 1103515245L + 12345L) & 0xFFFFFFFFL;
                rs[k] = r;
                draws[k] = (int) (r / 65536);
            }
            int what = draws[0] % 4;
            if (what < 2) {
                like.days(1);
                pairs += like.row(0);
                mute += like.row(1);
            } else if (what == 2) {
                like.hauls(draws[1] % 10, draws[2] % 10);
            } else if (like.count(0) > 0) {
                like.moves(draws[1] % like.count(0), draws[2] % 10, draws[3] % 10);
            }
            r = rs[what < 2 ? 0 : what == 2 ? 2 : like.count(0) > 0 ? 3 : 0];
        }
        NoonGun gun = town.make();
        Check.due("years " + seed + ", " + n, gun.years(seed, n), pairs);
        Check.dueRow("years " + seed + ", " + n, gun, like.count(3), mute);
    }

    private static final int[] SEEDS = {0, 1, -1, LEAST, MOST, 12345, -1103515245, 0x7FFF0000, 0xFFFF};

    private static void promise45Once() {
        for (int seed : SEEDS) {
            for (int more = 0; more < 8; more++) {
                dueYears(Twins::midTown, seed + more, 1);
            }
        }
    }

    private static void promise45SixtyTimes() {
        for (int seed : SEEDS) {
            dueYears(Twins::midTown, seed, 60);
        }
    }

    private static void promise45NoDrawsWithoutHouses() {
        for (int seed : SEEDS) {
            dueYears(NoonGun::new, seed, 60);
            dueYears(NoonGun::new, seed, 2);
        }
    }

    private static void promise45EightHousesWithoutPowder() {
        Check.due("no powder", Twins.fullTown().count(3), 0);
        for (int seed : SEEDS) {
            dueYears(Twins::fullTown, seed, 60);
        }
    }

    private static void promise45PowderEndsInThese() {
        for (int seed : SEEDS) {
            dueYears(EdgesOfGuessesTest::threeOfPowder, seed, 60);
            dueYears(EdgesOfGuessesTest::threeOfPowder, seed, 9);
        }
    }

    private static NoonGun threeOfPowder() {
        NoonGun gun = Check.smallTown();
        gun.days(17);
        return gun;
    }

    private static void promise45ClashesAside() {
        for (int seed : SEEDS) {
            dueYears(EdgesOfGuessesTest::mostClashes, seed, 60);
        }
    }

    private static NoonGun mostClashes() {
        NoonGun gun = Check.crowd();
        for (int i = 0; i < 6; i++) {
            gun.buys(99 - gun.count(3));
            gun.days(60);
        }
        gun.buys(99 - gun.count(3));
        Check.due("clashes", gun.count(4), 9999);
        return gun;
    }

    private static void promise45TheFirstDraws() {
        // By seed 0, R is 12345, and a draw of 4 from 0: A DAY.
        NoonGun gun = Check.smallTown();
        Check.due("one day", gun.years(0, 1), 1);
        Check.dueRow("one day", gun, 19, 0);
    }

    private static void promise45ItChangesNothing() {
        for (int seed : SEEDS) {
            Twins.asksAlone("years", gun -> gun.years(seed, 60));
        }
    }

    private static void promise45BetweenOthers() {
        Twins.sameButRow("undone", EdgesOfGuessesTest::undone, EdgesOfGuessesTest::undoneWithYears);
    }

    private static NoonGun undone() {
        NoonGun gun = Twins.fullTown();
        gun.undo();
        gun.undo();
        gun.buys(9);
        gun.again(1);
        gun.hauls(0, 7);
        return gun;
    }

    private static NoonGun undoneWithYears() {
        NoonGun gun = Twins.fullTown();
        gun.years(1, 60);
        gun.undo();
        gun.years(2, 60);
        gun.undo();
        gun.years(3, 60);
        gun.buys(9);
        gun.years(4, 60);
        gun.again(1);
        gun.years(5, 60);
        gun.hauls(0, 7);
        gun.years(6, 60);
        return gun;
    }

    private static void promise45EachAskedAnew() {
        NoonGun gun = Twins.midTown();
        int pairs = gun.years(77, 40);
        long powder = gun.row(0);
        long mute = gun.row(1);
        gun.years(3, 60);
        Check.due("the same", gun.years(77, 40), pairs);
        Check.dueRow("the same", gun, powder, mute);
    }

    // ---- 46: keep

    private static void promise46AnotherNumber() {
        for (int i : new int[] {-1, 3, LEAST, MOST}) {
            Twins.refused("keep " + i, 0, gun -> gun.keep(i) ? 1 : 0);
        }
    }

    private static void promise46TheFirstToTheLast() {
        NoonGun gun = new NoonGun();
        for (int i = 0; i <= 2; i++) {
            gun.buys(1);
            Check.due("keep " + i, gun.keep(i), true);
        }
        gun.buys(5);
        for (int i = 0; i <= 2; i++) {
            Check.due("again " + i, gun.again(i), true);
            Check.due("powder of " + i, gun.count(3), 21 + i);
        }
    }

    private static void promise46ANumberThatIsKeptAlready() {
        NoonGun gun = new NoonGun();
        gun.keep(1);
        gun.buys(7);
        Check.due("once more", gun.keep(1), true);
        gun.buys(1);
        gun.again(1);
        Check.due("the later one", gun.count(3), 27);
    }

    private static void promise46ItChangesNothingElse() {
        Twins.Town town = EdgesOfGuessesTest::keptNow;
        Twins.unchanged("kept under 2 anew", town, () -> Twins.called(town, gun -> gun.keep(2) ? 1 : 0));
    }

    private static NoonGun keptNow() {
        NoonGun gun = Twins.fullTown();
        gun.keep(2);
        return gun;
    }

    private static void promise46WhatWasDoneLaterLeavesIt() {
        NoonGun gun = Check.smallTown();
        gun.keep(0);
        Check.week(gun, "n9b9g77m033l19");
        gun.hill(2, 2);
        gun.sheet(2, 4, 9, 0);
        Check.due("again", gun.again(0), true);
        Twins.sameButRow("as it was", EdgesOfGuessesTest::keptSmall, EdgesOfGuessesTest::keptAndBack);
    }

    private static NoonGun keptSmall() {
        NoonGun gun = Check.smallTown();
        gun.keep(0);
        return gun;
    }

    private static NoonGun keptAndBack() {
        NoonGun gun = keptSmall();
        Check.week(gun, "n9b9g77m033l19");
        gun.hill(2, 2);
        gun.sheet(2, 4, 9, 0);
        gun.again(0);
        return gun;
    }

    // ---- 47: again

    private static void promise47AnotherNumber() {
        for (int i : new int[] {-1, 3, LEAST, MOST}) {
            Twins.refused("again " + i, 0, gun -> gun.again(i) ? 1 : 0);
        }
    }

    private static void promise47NothingKept() {
        for (int i = 0; i <= 2; i++) {
            int k = i;
            Twins.refusedIn(Check::smallTown, "again " + k, 0, gun -> gun.again(k) ? 1 : 0);
        }
        Twins.refusedIn(Twins::midTown, "nothing under 0", 0, gun -> gun.again(0) ? 1 : 0);
    }

    private static void promise47HousesCameSince() {
        for (int i = 0; i <= 2; i++) {
            int k = i;
            Twins.refusedIn(() -> grown(true), "again " + k, 0, gun -> gun.again(k) ? 1 : 0);
        }
    }

    private static void promise47DeedsCameSince() {
        for (int i = 0; i <= 2; i++) {
            int k = i;
            Twins.refusedIn(() -> grown(false), "again " + k, 0, gun -> gun.again(k) ? 1 : 0);
        }
    }

    private static NoonGun grown(boolean byHouses) {
        NoonGun gun = Check.smallTown();
        gun.keep(0);
        gun.days(1);
        gun.keep(1);
        gun.keep(2);
        if (byHouses) {
            Check.houses(gun, "77");
        } else {
            Check.deeds(gun, "01a");
        }
        gun.days(2);
        return gun;
    }

    private static void promise47RefusedAndEmptyTextsLeaveIt() {
        NoonGun gun = Check.smallTown();
        gun.keep(0);
        Check.houses(gun, "");
        Check.deeds(gun, "");
        Check.houses(gun, "11;");
        Check.deeds(gun, "01");
        Check.houses(gun, "00;11;22;33;44;55");
        Check.deeds(gun, "31a");
        Check.winds(gun, "1");
        Check.rule(gun, "d");
        Check.due("again", gun.again(0), true);
    }

    private static void promise47KeptSinceTheyCame() {
        NoonGun gun = grown(true);
        Check.due("kept", gun.keep(1), true);
        gun.days(1);
        Check.due("again", gun.again(1), true);
        Check.due("day", gun.count(2), 3);
        Check.due("not 0", gun.again(0), false);
    }

    private static void promise47OnceMoreChangesNothing() {
        for (int i = 0; i <= 2; i++) {
            int k = i;
            Twins.Town town = () -> Twins.called(Twins::fullTown, gun -> gun.again(k) ? 1 : 0);
            Twins.unchanged("again " + k, town, () -> Twins.called(town, gun -> gun.again(k) ? 1 : 0));
        }
    }

    private static void promise47AsOftenAsAsked() {
        NoonGun gun = new NoonGun();
        gun.keep(0);
        for (int i = 0; i < 3; i++) {
            gun.days(5);
            Check.due("again", gun.again(0), true);
            Check.due("day", gun.count(2), 0);
        }
    }

    private static void promise47WhatItLeaves() {
        NoonGun gun = Check.smallTown();
        gun.keep(0);
        gun.days(2);
        Check.winds(gun, "5");
        Check.damps(gun, "6");
        Check.rule(gun, "9");
        gun.heard(0, 15);
        Check.text(gun, "abc");
        gun.again(0);
        Check.due("winds", gun.count(8), 5);
        Check.due("damps", gun.count(9), 6);
        Check.due("rule", gun.house(0, 3), 15);
        Check.due("heard", gun.count(10), 1);
        Check.due("the text", gun.count(13), 3);
        Check.dueRow("the row", gun, 2, 0);
    }

    // ---- 48: count

    private static void promise48AnotherWhat() {
        for (int what : new int[] {-1, 14, -100, LEAST, MOST}) {
            Twins.refused("count " + what, -100, gun -> gun.count(what));
        }
    }

    private static void promise48TheMostOfEach() {
        NoonGun gun = Twins.fullTown();
        Check.due("houses", gun.count(0), 8);
        Check.due("deeds", gun.count(1), 8);
        Check.due("powder", gun.count(3), 0);
        Check.due("heard", gun.count(10), 10);
        Check.due("undone", gun.count(11), 15);
        Check.due("numbers of the row", gun.count(12), 8);
        Check.due("signs", gun.count(13), 80);
        gun.end(0);
        Check.law(gun, "");
        Check.due("ten numbers", gun.count(12), 10);
        gun.buys(99);
        Check.due("powder", gun.count(3), 99);
    }

    private static void promise48WindAndDampOfThisDay() {
        NoonGun gun = new NoonGun();
        Check.winds(gun, "90");
        Check.damps(gun, "098");
        for (int day = 0; day < 7; day++) {
            Check.due("wind", gun.count(8), day % 2 == 0 ? 9 : 0);
            Check.due("damp", gun.count(9), day % 3 == 0 ? 0 : 10 - day % 3);
            gun.days(1);
        }
    }

    private static void promise48ItChangesNothing() {
        for (int what = 0; what <= 13; what++) {
            int w = what;
            Twins.unchanged("count " + w, Twins::fullTown, () -> Twins.called(Twins::fullTown, gun -> gun.count(w)));
        }
    }

    // ---- 49: row

    private static void promise49NoneSuch() {
        for (int i : new int[] {-1, 16, 17, LEAST, MOST}) {
            Twins.throwsNoSuch("row " + i, gun -> gun.row(i));
        }
        Twins.throwsNoSuch("row behind its end", gun -> gun.row(gun.count(12)));
    }

    private static void promise49NothingToldYet() {
        Twins.throwsNoSuchIn(NoonGun::new, "row 0", gun -> gun.row(0));
    }

    private static void promise49NothingToldLast() {
        NoonGun gun = Check.dayOldTown();
        Check.due("told", gun.row(1), 0);
        gun.order();
        Check.dueNoSuch("row 0", () -> gun.row(0));
        Check.dueNoSuch("row 1", () -> gun.row(1));
    }

    private static void promise49AShorterRow() {
        NoonGun gun = Check.smallTown();
        gun.law();
        Check.due("five", gun.count(12), 5);
        gun.lasts();
        Check.due("one", gun.count(12), 1);
        Check.dueNoSuch("row 1", () -> gun.row(1));
    }

    private static void promise49ALong() {
        NoonGun gun = new NoonGun();
        gun.misfires(15, 1, 9);
        Check.due("above all ints", gun.row(1), 1000000000000000L);
    }

    private static void promise49RefusedCallsLeaveIt() {
        NoonGun gun = Check.smallTown();
        gun.order();
        gun.days(61);
        gun.lane(4);
        gun.ahead(100);
        gun.holds(8);
        gun.echo(8);
        gun.menders(19);
        gun.misfires(0, 0, 0);
        gun.forts(21, 21);
        gun.rests(21);
        gun.years(0, 0);
        Check.week(gun, "z");
        Check.law(gun, "z");
        Check.dueRow("as it was", gun, 0, 1, 2, 3);
    }

    private static void promise49ItChangesNothing() {
        Twins.Town[] towns = {Twins::midTown, Twins::fullTown};
        for (Twins.Town town : towns) {
            Twins.unchanged("row", town, () -> Twins.called(town, gun -> gun.row(0)));
        }
    }

    /** THE TEXT stays, too, by all but those that read it. */
    private static void promise49CallsThatTellNoneLeaveIt() {
        Twins.Call[] calls = {gun -> gun.sheet(0, 2, 5, 1), gun -> gun.buys(1), gun -> gun.hauls(9, 2),
            gun -> gun.moves(1, 4, 4), gun -> gun.takes(1, 9), gun -> gun.hill(0, 3), gun -> gun.undo(),
            gun -> gun.heard(0, 9), gun -> gun.forget(), gun -> gun.keep(0) ? 1 : 0, gun -> gun.again(1) ? 1 : 0,
            gun -> gun.house(0, 3), gun -> gun.deed(0, 3), gun -> gun.count(12), gun -> gun.row(2)};
        for (int i = 0; i < calls.length; i++) {
            NoonGun gun = Twins.midTown();
            calls[i].make(gun);
            Check.dueRow("call " + i, gun, 0, 2, 1);
            Check.due("text, call " + i, gun.count(13), 5);
            Check.due("winds, call " + i, gun.winds(), 5);
            Check.dueRow("winds behind call " + i, gun, 0, 2, 1);
        }
        Twins.Call[] readers = {NoonGun::houses, NoonGun::deeds, NoonGun::winds, NoonGun::damps, NoonGun::rule};
        String[] texts = {"11", "01a", "1", "1", "1"};
        for (int i = 0; i < readers.length; i++) {
            NoonGun gun = Twins.told(Twins::midTown, texts[i]);
            Check.due("reader " + i, readers[i].make(gun), i == 4 ? 0 : 1);
            Check.dueRow("reader " + i, gun, 0, 2, 1);
            Check.due("text, reader " + i, gun.count(13), 0);
        }
    }
}

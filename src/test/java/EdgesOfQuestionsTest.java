/** Boundary cases of promises 20 to 34, each with a test of its own. */
public final class EdgesOfQuestionsTest {
    private static final int LEAST = Integer.MIN_VALUE;
    private static final int MOST = Integer.MAX_VALUE;

    public static void main(String[] args) {
        Edges.run(EdgesOfQuestionsTest.class, 20, 34);
    }

    // ---- 20: order

    private static void promise20NoDeeds() {
        NoonGun gun = Check.dayOldTown();
        Check.due("none", gun.order(), 0);
        Check.dueRow("none", gun);
    }

    private static void promise20LikeOnesByTheirNumbers() {
        NoonGun gun = Check.crowd();
        Check.due("eight", gun.order(), 8);
        Check.dueRow("eight", gun, 0, 1, 2, 3, 4, 5, 6, 7);
        gun = Check.town("03;01;02", "21a;11a;01a;21a;11a;01a;01a;11a", "d");
        Check.due("eight", gun.order(), 8);
        Check.dueRow("eight", gun, 1, 4, 7, 0, 3, 2, 5, 6);
    }

    private static void promise20FromTheLastToTheFirst() {
        NoonGun gun = Check.town("07;06;05;04;03;02;01;00", "09a;11b;21c;31d;41a;51b;61c;71d", "d");
        Check.due("eight", gun.order(), 8);
        Check.dueRow("eight", gun, 7, 6, 5, 4, 3, 2, 1, 0);
    }

    private static void promise20WithoutPowderToo() {
        NoonGun gun = Check.town("11;00", "01a;11a");
        gun.days(60);
        Check.due("two", gun.order(), 2);
        Check.dueRow("two", gun, 1, 0);
    }

    private static void promise20ItChangesNothing() {
        Twins.asksAlone("order", gun -> gun.order());
    }

    // ---- 21: clashes

    private static void promise21NoDeeds() {
        NoonGun gun = Check.dayOldTown();
        Check.due("none", gun.clashes(), 0);
        Check.dueRow("nothing without", gun);
    }

    private static void promise21NoneClash() {
        NoonGun gun = Check.town("00", "09a;09b;09c;09d");
        gun.days(1);
        Check.due("none", gun.clashes(), 0);
        Check.dueRow("nothing without", gun);
    }

    private static void promise21AllClash() {
        NoonGun gun = Check.crowd();
        Check.due("all pairs", gun.clashes(), 28);
        Check.dueRow("the first", gun, 0, 1);
    }

    private static void promise21TheLastPairAlone() {
        NoonGun gun = Check.town("00;09;18", "09a;09b;09c;09d;19a;19b;29c;29c", "d");
        Check.due("one", gun.clashes(), 1);
        Check.dueRow("the last", gun, 6, 7);
    }

    private static void promise21TheLeastRow() {
        NoonGun gun = Check.town("00", "01a;01b;01c;01b;01d;01d");
        Check.due("two", gun.clashes(), 2);
        Check.dueRow("the least", gun, 1, 3);
    }

    private static void promise21OneThatEndsAt5HasFourAsItsLast() {
        NoonGun gun = Check.town("00;05;04", "05a;11a", "d");
        Check.due("5 and 5", gun.clashes(), 0);
        gun = Check.town("00;05;04", "05a;21a", "d");
        Check.due("5 and 4", gun.clashes(), 1);
        gun = Check.town("00;05;04", "25a;04a", "d");
        Check.due("the later one first", gun.clashes(), 0);
    }

    private static void promise21OneWithinAnother() {
        NoonGun gun = Check.town("00;04", "09a;11a", "d");
        Check.due("within", gun.clashes(), 1);
        gun = Check.town("00;04", "11a;09a", "d");
        Check.due("around", gun.clashes(), 1);
    }

    private static void promise21WithoutPowderToo() {
        NoonGun gun = Check.crowd();
        gun.days(60);
        Check.due("all pairs", gun.clashes(), 28);
    }

    private static void promise21ItChangesNothing() {
        Twins.asksAlone("clashes", gun -> gun.clashes());
    }

    // ---- 22: span

    private static void promise22NoDeeds() {
        Twins.refusedIn(() -> Twins.lived(new NoonGun()), "no deeds", -2, gun -> gun.span());
        Twins.refusedIn(() -> Twins.lived(Check.town("00;11", "")), "houses alone", -2, gun -> gun.span());
    }

    private static void promise22TheShortestOne() {
        NoonGun gun = Check.town("00", "01a");
        Check.due("one minute", gun.span(), 1);
        Check.dueRow("one minute", gun, 0, 1, 0);
    }

    private static void promise22TheLatestOne() {
        NoonGun gun = Check.town("00", "09a", "99");
        Check.damps(gun, "9");
        Check.due("nine minutes", gun.span(), 9);
        Check.dueRow("nine minutes", gun, 108, 117, 0);
    }

    private static void promise22TheWidestGap() {
        NoonGun gun = Check.town("00;10", "01a;19a", "x*99");
        Check.due("ten minutes", gun.span(), 10);
        Check.dueRow("ten minutes", gun, 0, 108, 98);
    }

    private static void promise22OneBeginsWhenAnotherEnds() {
        NoonGun gun = Check.town("00;05", "05a;12a", "d");
        Check.due("no gap", gun.span(), 7);
        Check.dueRow("no gap", gun, 0, 7, 0);
        gun = Check.town("00;06", "05a;12a", "d");
        Check.due("a gap of one", gun.span(), 7);
        Check.dueRow("a gap of one", gun, 0, 8, 1);
        gun = Check.town("00;04", "05a;12a", "d");
        Check.due("one in common", gun.span(), 6);
        Check.dueRow("one in common", gun, 0, 6, 0);
    }

    private static void promise22TheLastOneToEndDidNotBeginLast() {
        NoonGun gun = Check.town("01;03", "11a;09a", "d");
        Check.due("nine minutes", gun.span(), 9);
        Check.dueRow("nine minutes", gun, 1, 10, 0);
    }

    private static void promise22ItChangesNothing() {
        Twins.asksAlone("span", gun -> gun.span());
    }

    // ---- 23: lane

    private static void promise23AnotherLane() {
        for (int lane : new int[] {-1, 4, LEAST, MOST}) {
            Twins.refused("lane " + lane, -1, gun -> gun.lane(lane));
        }
    }

    private static void promise23NoDeeds() {
        for (int lane = 0; lane <= 3; lane++) {
            NoonGun gun = new NoonGun();
            Check.due("lane " + lane, gun.lane(lane), 0);
            Check.dueRow("0 and NONE without", gun, 0, -1);
        }
    }

    private static void promise23NoneOnIt() {
        NoonGun gun = Check.town("00", "09abd");
        Check.due("lane c", gun.lane(2), 0);
        Check.dueRow("0 and NONE without", gun, 0, -1);
    }

    private static void promise23TheFirstAndTheLastLane() {
        NoonGun gun = Check.town("00;03", "04a;19d", "d");
        Check.due("a", gun.lane(0), 4);
        Check.dueRow("a", gun, 1, 0);
        Check.due("d", gun.lane(3), 9);
        Check.dueRow("d", gun, 1, 3);
    }

    private static void promise23EachMinuteOnce() {
        NoonGun gun = Check.crowd();
        Check.due("nine", gun.lane(0), 9);
        Check.dueRow("all eight", gun, 8, 0);
    }

    private static void promise23TheFirstSuchMinute() {
        NoonGun gun = Check.town("00;02;09;08", "03a;14a;21a;39a", "d");
        // On 0-2, 2-5, 9, 8-16: two on minute 2, and on minute 9.
        Check.due("minutes", gun.lane(0), 15);
        Check.dueRow("the first of two", gun, 2, 2);
    }

    private static void promise23OneBeginsWhenAnotherEnds() {
        NoonGun gun = Check.town("00;05", "05b;12b", "d");
        Check.due("seven", gun.lane(1), 7);
        Check.dueRow("never two", gun, 1, 0);
        gun.takes(0, 6);
        Check.due("seven still", gun.lane(1), 7);
        Check.dueRow("two on 5", gun, 2, 5);
    }

    private static void promise23TheLatestMinutes() {
        NoonGun gun = Check.town("00", "09a", "99");
        Check.damps(gun, "9");
        Check.due("nine", gun.lane(0), 9);
        Check.dueRow("the first", gun, 1, 108);
    }

    private static void promise23ItChangesNothing() {
        for (int lane = 0; lane <= 3; lane++) {
            int l = lane;
            Twins.asksAlone("lane " + l, gun -> gun.lane(l));
        }
    }

    // ---- 24: ahead

    private static void promise24AnotherN() {
        for (int n : new int[] {-1, 100, LEAST, MOST}) {
            Twins.refused("ahead " + n, -1, gun -> gun.ahead(n));
        }
    }

    private static void promise24ThisDay() {
        NoonGun gun = Check.crowd();
        Check.winds(gun, "12");
        Check.damps(gun, "34");
        gun.days(1);
        Check.due("all pairs", gun.ahead(0), 28);
        Check.dueRow("this day", gun, 4, 2);
    }

    /** HOUSES hear together on the DAY alone on which WIND and DAMP are both 9. */
    private static NoonGun oneOf380Days(int day, boolean quiet) {
        StringBuilder winds = new StringBuilder("0".repeat(20));
        StringBuilder damps = new StringBuilder("0".repeat(19));
        winds.setCharAt(day % 20, '9');
        damps.setCharAt(day % 19, '9');
        String rule = quiet ? "x*(w=9)*(m=9)*9" : "x*9*(1-(w=9)*(m=9))";
        NoonGun gun = Check.town("00;10", "01a;11a", rule);
        Check.winds(gun, winds.toString());
        Check.damps(gun, damps.toString());
        return gun;
    }

    private static void promise24TheDay99() {
        NoonGun gun = oneOf380Days(99, false);
        Check.due("they clash", gun.ahead(99), 1);
        Check.dueRow("day 99", gun, 9, 9);
        Check.due("not the day ahead", gun.ahead(98), 0);
        gun.days(1);
        Check.due("not on day 100", gun.ahead(99), 0);
        Check.due("98 from now", gun.ahead(98), 1);
    }

    private static void promise24DaysGoRoundBy7() {
        NoonGun gun = Check.town("00;10", "01a;11a", "x*n");
        for (int n = 0; n <= 99; n++) {
            Check.due("day " + n, gun.ahead(n), n % 7 == 0 ? 1 : 0);
        }
    }

    private static void promise24NoDeeds() {
        NoonGun gun = new NoonGun();
        Check.due("none", gun.ahead(99), 0);
        Check.dueRow("none", gun, 0, 0);
    }

    private static void promise24WithoutPowderToo() {
        NoonGun gun = Check.crowd();
        gun.days(19);
        Check.due("powder ends ahead of it", gun.ahead(5), 28);
        gun.days(60);
        Check.due("without", gun.ahead(0), 28);
    }

    private static void promise24ItChangesNothing() {
        Twins.asksAlone("ahead 0", gun -> gun.ahead(0));
        Twins.asksAlone("ahead 99", gun -> gun.ahead(99));
    }

    // ---- 25: quiet

    private static void promise25OnNone() {
        Twins.refusedIn(() -> Twins.lived(Check.crowd()), "never", -2, gun -> gun.quiet());
    }

    private static void promise25ThisDay() {
        NoonGun gun = oneOf380Days(0, true);
        Check.due("this day", gun.quiet(), 0);
        Check.dueRow("this alone", gun, 1);
    }

    private static void promise25TheDay99() {
        NoonGun gun = oneOf380Days(99, true);
        Check.due("day 99", gun.quiet(), 99);
        Check.dueRow("it alone", gun, 1);
        gun.days(1);
        Check.due("day 98", gun.quiet(), 98);
        gun.days(60);
        gun.days(39);
        Check.due("it has gone by", gun.quiet(), -2);
    }

    private static void promise25TheDay100IsTooLate() {
        Twins.refusedIn(() -> oneOf380Days(100, true), "day 100", -2, gun -> gun.quiet());
        NoonGun gun = oneOf380Days(100, true);
        gun.days(1);
        Check.due("now it is 99", gun.quiet(), 99);
    }

    private static void promise25AllOfThem() {
        NoonGun gun = new NoonGun();
        Check.due("no deeds", gun.quiet(), 0);
        Check.dueRow("all 100", gun, 100);
        gun = oneOf380Days(50, false);
        Check.due("this day", gun.quiet(), 0);
        Check.dueRow("all but one", gun, 99);
    }

    private static void promise25WithoutPowderToo() {
        NoonGun gun = Check.crowd();
        gun.days(60);
        Check.due("never", gun.quiet(), -2);
    }

    private static void promise25ItChangesNothing() {
        Twins.asksAlone("quiet", gun -> gun.quiet());
    }

    // ---- 26: lasts

    private static void promise26NoPowder() {
        NoonGun gun = Check.crowd();
        gun.days(20);
        Check.due("none", gun.lasts(), 0);
        Check.dueRow("none", gun, 0);
    }

    private static void promise26AllThePowder() {
        NoonGun gun = Check.crowd();
        gun.buys(79);
        Check.due("99", gun.lasts(), 99);
        Check.dueRow("99", gun, 99 * 28);
    }

    private static void promise26TheLastDayOfThem() {
        NoonGun gun = oneOf380Days(19, false);
        Check.due("20", gun.lasts(), 20);
        Check.dueRow("day 19 is the last", gun, 1);
        gun = oneOf380Days(20, false);
        Check.due("20", gun.lasts(), 20);
        Check.dueRow("day 20 is behind", gun, 0);
        gun = oneOf380Days(0, false);
        Check.due("20", gun.lasts(), 20);
        Check.dueRow("day 0 is the first", gun, 1);
    }

    private static void promise26ClashesAside() {
        NoonGun gun = Check.crowd();
        for (int i = 0; i < 6; i++) {
            gun.buys(99 - gun.count(3));
            gun.days(60);
        }
        gun.buys(99 - gun.count(3));
        Check.due("99", gun.lasts(), 99);
        Check.dueRow("clashes are at their most", gun, 99 * 28);
    }

    private static void promise26NoDeeds() {
        NoonGun gun = new NoonGun();
        Check.due("20", gun.lasts(), 20);
        Check.dueRow("no pairs", gun, 0);
    }

    private static void promise26ItChangesNothing() {
        Twins.asksAlone("lasts", gun -> gun.lasts());
    }

    // ---- 27: fewest

    private static void promise27NoDeeds() {
        NoonGun gun = Check.dayOldTown();
        Check.due("none", gun.fewest(), 0);
        Check.dueRow("none", gun, 0);
    }

    private static void promise27NoneClash() {
        NoonGun gun = Check.town("00", "09a;09b;09c;09d");
        Check.due("none", gun.fewest(), 0);
        Check.dueRow("none", gun, 0);
    }

    private static void promise27AllButOne() {
        NoonGun gun = Check.crowd();
        Check.due("seven", gun.fewest(), 7);
        Check.dueRow("the least bits", gun, 127);
    }

    private static void promise27OfAsFewTheLeastBits() {
        NoonGun gun = Check.town("00", "09a;09a;09b;09b;09c;09c;09d;09d");
        Check.due("four", gun.fewest(), 4);
        Check.dueRow("the least bits", gun, 1 + 4 + 16 + 64);
    }

    private static void promise27FewerThoughMoreBits() {
        NoonGun gun = Check.town("00", "01a;01b;01c;01d;01a;01b;01c;09abcd");
        Check.due("four", gun.fewest(), 4);
        Check.dueRow("the last one, too", gun, 1 + 2 + 4 + 128);
        gun = Check.town("00", "01a;01b;01c;09abcd");
        Check.due("one", gun.fewest(), 1);
        Check.dueRow("the last one", gun, 8);
    }

    private static void promise27WithoutPowderToo() {
        NoonGun gun = Check.crowd();
        gun.days(60);
        Check.due("seven", gun.fewest(), 7);
    }

    private static void promise27ItChangesNothing() {
        Twins.asksAlone("fewest", gun -> gun.fewest());
    }

    // ---- 28: longest

    private static void promise28NoDeeds() {
        NoonGun gun = Check.dayOldTown();
        Check.due("none", gun.longest(), 0);
        Check.dueRow("none", gun, 0);
    }

    private static void promise28AllOfThem() {
        NoonGun gun = Check.town("00;09", "09a;09b;09c;09d;19a;19b;19c;19d", "d");
        Check.due("all", gun.longest(), 72);
        Check.dueRow("all", gun, 255);
    }

    private static void promise28OneAlone() {
        NoonGun gun = Check.crowd();
        Check.due("one", gun.longest(), 9);
        Check.dueRow("the least bits", gun, 1);
        gun.takes(0, 8);
        Check.due("another", gun.longest(), 9);
        Check.dueRow("the longest", gun, 2);
    }

    private static void promise28AsLongButMore() {
        NoonGun gun = Check.town("00", "09abcd;04a;05b");
        Check.due("nine", gun.longest(), 9);
        Check.dueRow("the most", gun, 6);
        gun.takes(1, 3);
        Check.due("nine", gun.longest(), 9);
        Check.dueRow("longer, though fewer", gun, 1);
    }

    private static void promise28AsLongAsManyTheLeastBits() {
        NoonGun gun = Check.town("00", "05a;04b;04a;05b");
        // 0 and 1, 1 and 2, 0 and 3, 2 and 3 can be together: 9, 8, 10, 9.
        Check.due("ten", gun.longest(), 10);
        Check.dueRow("ten", gun, 9);
        gun.takes(3, 4);
        Check.due("nine", gun.longest(), 9);
        Check.dueRow("the least bits", gun, 3);
    }

    private static void promise28WithoutPowderToo() {
        NoonGun gun = Check.crowd();
        gun.days(60);
        Check.due("one", gun.longest(), 9);
    }

    private static void promise28ItChangesNothing() {
        Twins.asksAlone("longest", gun -> gun.longest());
    }

    // ---- 29: best

    private static void promise29NoDeeds() {
        NoonGun gun = Check.dayOldTown();
        Check.due("none", gun.best(), 0);
        Check.dueRow("the least row", gun, 0, 0, 0);
    }

    private static void promise29TheFirstPlace() {
        NoonGun gun = Check.crowd();
        gun.hauls(5, 5);
        Check.due("no place is better", gun.best(), 28);
        Check.dueRow("the least row", gun, 0, 0, 28);
    }

    private static void promise29TheLastPlace() {
        NoonGun gun = Check.town("99;00", "01a;11a", "(d=0)*x*9");
        Check.due("none clash", gun.best(), 0);
        Check.dueRow("9, 9 alone", gun, 9, 9, 1);
        gun.hauls(9, 9);
        Check.due("none clash", gun.best(), 0);
        Check.dueRow("it is there", gun, 9, 9, 0);
    }

    private static void promise29OfAsFewTheLeastRow() {
        NoonGun gun = Check.town("37;82;00", "01a;11a;21a", "(d=0)*(x+1)*9");
        // At 3, 7 or at 8, 2, and at 0, 0, where it is: one DEED is apart, and one pair is left.
        gun.hauls(9, 9);
        Check.due("one pair", gun.best(), 1);
        Check.dueRow("0, 0", gun, 0, 0, 3);
        gun.moves(2, 9, 0);
        Check.due("one pair", gun.best(), 1);
        Check.dueRow("3, 7", gun, 3, 7, 3);
    }

    private static void promise29NoPlaceOutsideOfTheTown() {
        // From a place beside the town's edge it would be 19 to the other corner.
        for (String corner : new String[] {"00", "09", "90", "99"}) {
            NoonGun gun = Check.town(corner + ";55", "01a;11a", "(d>18)*9");
            Check.due("corner " + corner, gun.best(), 1);
            Check.dueRow("corner " + corner, gun, 0, 0, 1);
        }
    }

    private static void promise29WithoutPowderToo() {
        NoonGun gun = Check.town("99;00", "01a;11a", "(d=0)*x*9");
        gun.days(60);
        Check.due("none clash", gun.best(), 0);
        Check.dueRow("9, 9 alone", gun, 9, 9, 1);
    }

    private static void promise29ItChangesNothing() {
        Twins.asksAlone("best", gun -> gun.best());
    }

    // ---- 30: middle

    private static void promise30NoHouses() {
        Twins.refusedIn(() -> Twins.lived(new NoonGun()), "no houses", -2, gun -> gun.middle());
    }

    private static void promise30TheFirstPlace() {
        NoonGun gun = Check.town("99", "", "7");
        Check.due("like everywhere", gun.middle(), 7);
        Check.dueRow("the least row", gun, 0, 0);
    }

    private static void promise30TheLastPlace() {
        NoonGun gun = Check.town("99", "", "d");
        Check.damps(gun, "9");
        Check.due("at the house", gun.middle(), 9);
        Check.dueRow("9, 9", gun, 9, 9);
    }

    private static void promise30TheEarliest() {
        NoonGun gun = Check.town("34;34", "", "d");
        Check.due("minute 0", gun.middle(), 0);
        Check.dueRow("at the houses", gun, 3, 4);
        Check.rule(gun, "0");
        Check.due("minute 0 everywhere", gun.middle(), 0);
        Check.dueRow("the least row", gun, 0, 0);
    }

    private static void promise30OfLikeOnesTheLeastRow() {
        NoonGun gun = Check.town("00;02", "", "d");
        Check.due("one off", gun.middle(), 1);
        Check.dueRow("between", gun, 0, 1);
        gun = Check.town("00;11", "", "d");
        Check.due("one off", gun.middle(), 1);
        Check.dueRow("0, 1 or 1, 0", gun, 0, 1);
    }

    private static void promise30TheLatest() {
        NoonGun gun = Check.town("00", "", "999");
        Check.damps(gun, "9");
        Check.due("108", gun.middle(), 108);
        Check.dueRow("108", gun, 0, 0);
    }

    private static void promise30NoPlaceOutsideOfTheTown() {
        for (String corner : new String[] {"00", "09", "90", "99"}) {
            NoonGun gun = Check.town(corner, "", "99-(d>18)*9");
            Check.due("corner " + corner, gun.middle(), 99);
            Check.dueRow("corner " + corner, gun, 0, 0);
        }
    }

    private static void promise30HousesWithoutDeedsToo() {
        NoonGun gun = Check.town("00;99", "09a", "d");
        Check.due("the last of both", gun.middle(), 9);
        Check.dueRow("between", gun, 0, 9);
    }

    private static void promise30ItChangesNothing() {
        Twins.asksAlone("middle", gun -> gun.middle());
    }

    // ---- 31: holds

    private static void promise31NoneSuch() {
        for (int deed : new int[] {-1, 8, LEAST, MOST}) {
            Twins.refused("deed " + deed, -1, gun -> gun.holds(deed));
        }
        Twins.refusedIn(NoonGun::new, "deed 0 of none", -1, gun -> gun.holds(0));
        Twins.refusedIn(Twins::midTown, "deed 4 of four", -1, gun -> gun.holds(4));
    }

    private static void promise31NotAtAll() {
        NoonGun gun = Check.town("04", "03a;03b", "d");
        Check.due("0", gun.holds(1), 0);
        Check.dueRow("when it is heard", gun, 4);
    }

    private static void promise31ByNine() {
        NoonGun gun = Check.crowd();
        Check.due("nine", gun.holds(7), 9);
        Check.dueRow("nine", gun, 9);
        Check.due("the first, too", gun.holds(0), 9);
    }

    private static NoonGun tenLate() {
        return Twins.lived(Check.town("71;72", "09a;19a;03a", "d"));
    }

    private static void promise31ByNoneOfThese() {
        // The others are on till 9, so it could begin at 10 alone.
        Twins.refusedIn(EdgesOfQuestionsTest::tenLate, "ten", -2, gun -> gun.holds(2));
        NoonGun gun = tenLate();
        gun.takes(1, 8);
        Check.due("nine", gun.holds(2), 9);
    }

    private static void promise31TillTheOtherOneEnds() {
        NoonGun gun = Check.town("00;02", "05a;13a", "d");
        Check.due("to minute 5", gun.holds(1), 3);
        Check.dueRow("to minute 5", gun, 5);
        Check.due("to minute 5 from 0", gun.holds(0), 5);
        Check.dueRow("to minute 5 from 0", gun, 5);
    }

    private static void promise31HeldInAGapThatJustFits() {
        NoonGun gun = Check.town("00;05", "02a;13a;03a", "d");
        Check.due("between 2 and 5", gun.holds(2), 2);
        Check.dueRow("between 2 and 5", gun, 2);
        gun.takes(2, 4);
        Check.due("behind 8", gun.holds(2), 8);
        Check.dueRow("behind 8", gun, 8);
    }

    private static void promise31WithoutPowderToo() {
        NoonGun gun = Check.crowd();
        gun.days(60);
        Check.due("nine", gun.holds(7), 9);
    }

    private static void promise31ItChangesNothing() {
        Twins.asksAlone("holds", gun -> gun.holds(0));
        Twins.asksAlone("holds of the last", gun -> gun.holds(7));
    }

    // ---- 32: hands

    private static void promise32NoDeeds() {
        NoonGun gun = Check.dayOldTown();
        Check.due("none", gun.hands(), 0);
        Check.dueRow("none", gun);
    }

    private static void promise32AHandForEach() {
        NoonGun gun = Check.crowd();
        Check.due("eight", gun.hands(), 8);
        Check.dueRow("eight", gun, 0, 1, 2, 3, 4, 5, 6, 7);
    }

    private static void promise32OneHandForAll() {
        NoonGun gun = Check.town("07;06;05;04;03;02;01;00", "09a;11b;21c;31d;41a;51b;61c;71d", "d");
        Check.due("one", gun.hands(), 1);
        Check.dueRow("one", gun, 0, 0, 0, 0, 0, 0, 0, 0);
    }

    private static void promise32OneEndsWhenAnotherBegins() {
        NoonGun gun = Check.town("00;05", "05a;11a", "d");
        Check.due("one hand", gun.hands(), 1);
        Check.dueRow("one hand", gun, 0, 0);
        gun.takes(0, 6);
        Check.due("two hands", gun.hands(), 2);
        Check.dueRow("two hands", gun, 0, 1);
    }

    private static void promise32LanesAside() {
        NoonGun gun = Check.town("00", "01a;01b");
        Check.due("two", gun.hands(), 2);
        Check.dueRow("two", gun, 0, 1);
    }

    private static void promise32TheFirstHandThatIsFree() {
        NoonGun gun = Check.town("00;03;05;09", "05a;02a;11a;22a;31a", "d");
        // On 0-4, 0-1, 3, 5-6, 9: the third DEED goes to hand 1, later ones to hand 0.
        Check.due("two", gun.hands(), 2);
        Check.dueRow("two", gun, 0, 1, 1, 0, 0);
    }

    private static void promise32GivenInTheirOrder() {
        NoonGun gun = Check.town("09;00", "01a;19a;11a", "d");
        Check.due("two", gun.hands(), 2);
        Check.dueRow("the first deed comes last", gun, 0, 0, 1);
    }

    private static void promise32WithoutPowderToo() {
        NoonGun gun = Check.crowd();
        gun.days(60);
        Check.due("eight", gun.hands(), 8);
    }

    private static void promise32ItChangesNothing() {
        Twins.asksAlone("hands", gun -> gun.hands());
    }

    // ---- 33: echo

    private static void promise33NoneSuch() {
        for (int house : new int[] {-1, 8, LEAST, MOST}) {
            Twins.refused("house " + house, -1, gun -> gun.echo(house));
        }
        Twins.refusedIn(NoonGun::new, "house 0 of none", -1, gun -> gun.echo(0));
        Twins.refusedIn(Twins::midTown, "house 3 of three", -1, gun -> gun.echo(3));
    }

    private static void promise33AtTheSameMinute() {
        NoonGun gun = Check.town("00;01", "", "7");
        Check.due("100", gun.echo(0), 100);
        Check.dueRow("none is behind", gun, 0);
    }

    private static void promise33AheadOfIt() {
        NoonGun gun = Check.town("00;01", "", "99-e*99");
        Check.due("by 99", gun.echo(1), 1);
        Check.dueRow("all are behind", gun, 3);
        gun = Check.town("00;01", "", "7-e");
        Check.due("by 1", gun.echo(1), 99);
        Check.dueRow("all are behind", gun, 3);
    }

    private static void promise33BehindIt() {
        NoonGun gun = Check.town("00;01", "", "e*99");
        Check.damps(gun, "9");
        Check.due("by 99", gun.echo(1), 199);
        Check.dueRow("none is behind", gun, 0);
    }

    private static void promise33HousesBehindThatMinute() {
        NoonGun gun = Check.town("00;01;02;03;04;05;06;07", "", "y+e*3");
        Check.due("of the first", gun.echo(0), 103);
        Check.dueRow("from the fifth on", gun, 0xF0);
        Check.due("of the fifth", gun.echo(4), 103);
        Check.dueRow("of the fifth", gun, 0);
        Check.due("of the last", gun.echo(7), 103);
        gun = Check.town("00;01;02;03;04;05;06;07", "", "y-e*3");
        Check.due("of the last", gun.echo(7), 97);
        Check.dueRow("at 4", gun, 0xE0);
    }

    private static void promise33TheHillWhereTheGunIs() {
        NoonGun gun = Check.town("55", "", "d");
        gun.hill(0, 0);
        Check.due("100", gun.echo(0), 100);
        gun.hill(5, 5);
        Check.due("on the way", gun.echo(0), 100);
        gun.hill(5, 6);
        Check.due("two off the way", gun.echo(0), 102);
    }

    private static void promise33ItChangesNothing() {
        Twins.asksAlone("echo", gun -> gun.echo(0));
        Twins.asksAlone("echo of the last", gun -> gun.echo(7));
    }

    // ---- 34: together

    private static void promise34NoHouses() {
        NoonGun gun = Check.dayOldTown();
        Check.due("none", gun.together(), 0);
        Check.dueRow("no minutes", gun, 0);
    }

    private static void promise34OneHouse() {
        NoonGun gun = Check.town("55", "");
        Check.due("none", gun.together(), 0);
        Check.dueRow("one minute", gun, 1);
    }

    private static void promise34AllOfThem() {
        NoonGun gun = Check.town("00;11;22;33;44;55;66;77", "", "5");
        Check.due("all", gun.together(), 255);
        Check.dueRow("one minute", gun, 1);
    }

    private static void promise34NoneOfThem() {
        NoonGun gun = Check.town("00;11;22;33;44;55;66;77", "", "d");
        Check.due("none", gun.together(), 0);
        Check.dueRow("eight minutes", gun, 8);
    }

    private static void promise34TheFirstAndTheLast() {
        NoonGun gun = Check.town("07;11;22;33;44;55;66;70", "", "d");
        Check.due("both", gun.together(), 129);
        Check.dueRow("seven minutes", gun, 7);
    }

    private static void promise34ItChangesNothing() {
        Twins.asksAlone("together", gun -> gun.together());
    }
}

/** Boundary cases of promises 12 to 19, each with a test of its own. */
public final class EdgesOfDaysTest {
    private static final int LEAST = Integer.MIN_VALUE;
    private static final int MOST = Integer.MAX_VALUE;
    private static final int[] NO_PLACE = {-1, 10, LEAST, MOST};
    private static final String SIXTY = "n0".repeat(30);

    public static void main(String[] args) {
        Edges.run(EdgesOfDaysTest.class, 12, 19);
    }

    // ---- 12: days

    private static void promise12AnotherN() {
        for (int n : new int[] {-1, 61, LEAST, MOST}) {
            Twins.refused("days " + n, -1, gun -> gun.days(n));
        }
    }

    private static void promise12NoDays() {
        NoonGun gun = Twins.midTown();
        int powder = gun.count(3);
        int day = gun.count(2);
        int undone = gun.count(11);
        Check.due("powder", gun.days(0), powder);
        Check.dueRow("none", gun, 0, 0);
        Check.due("day", gun.count(2), day);
        Check.due("it is done", gun.count(11), undone + 1);
    }

    private static void promise12NoDaysChangeNothing() {
        // A hill that stays where it is can be undone likewise.
        Twins.Town ahead = () -> Twins.called(Check::crowd, gun -> gun.hill(9, 9));
        Twins.sameButRow("days 0", ahead, () -> Twins.called(Check::crowd, gun -> gun.days(0)));
    }

    private static void promise12OneDay() {
        NoonGun gun = Check.crowd();
        Check.due("powder", gun.days(1), 19);
        Check.dueRow("one", gun, 28, 0);
        Check.due("day", gun.count(2), 1);
        Check.due("clashes", gun.count(4), 28);
    }

    private static void promise12SixtyDays() {
        NoonGun gun = Check.crowd();
        gun.buys(79);
        Check.due("powder", gun.days(60), 39);
        Check.dueRow("sixty", gun, 60 * 28, 0);
        Check.due("day", gun.count(2), 60);
    }

    private static void promise12TheLastPowder() {
        NoonGun gun = Check.crowd();
        Check.due("all of it", gun.days(20), 0);
        Check.dueRow("none mute", gun, 560, 0);
        Check.due("mute", gun.count(5), 0);
        gun.buys(3);
        Check.due("one less", gun.days(4), 0);
        Check.dueRow("one mute", gun, 84, 1);
        Check.due("mute", gun.count(5), 1);
    }

    private static void promise12WithoutPowderNothingBegins() {
        NoonGun gun = Check.crowd();
        gun.days(20);
        gun.moves(0, 5, 5);
        Check.due("powder", gun.days(3), 0);
        Check.dueRow("three mute", gun, 0, 3);
        Check.due("clashes", gun.count(4), 560);
        Check.due("mute", gun.count(5), 3);
        Check.due("the watch", gun.house(0, 2), 0);
        Check.due("it would be", gun.house(0, 3), 20);
        Check.due("day", gun.count(2), 23);
    }

    private static void promise12WatchesOfTheLastDayWithPowder() {
        NoonGun gun = Check.town("05;00", "");
        Check.damps(gun, "1234567");
        gun.days(19);
        // DAY 18 has DAMP 5; on DAY 19, the last one with powder, it is 6.
        Check.due("nineteen", gun.house(1, 2), 5);
        gun.days(9);
        Check.due("the last", gun.house(0, 2), 16);
        Check.due("of both", gun.house(1, 2), 6);
    }

    private static void promise12ClashesStayAt9999() {
        NoonGun gun = Check.crowd();
        for (int i = 0; i < 6; i++) {
            gun.buys(99 - gun.count(3));
            gun.days(60);
            Check.due("up to it", gun.count(4), Math.min(9999, 28 * 60 * (i + 1)));
        }
        gun.buys(1);
        gun.days(1);
        Check.dueRow("clashes aside", gun, 28, 0);
        Check.due("still", gun.count(4), 9999);
    }

    private static void promise12JustToTheMostClashes() {
        NoonGun gun = Check.town("00", "09a;09a;09a");
        gun.buys(40);
        for (int i = 0; i < 55; i++) {
            gun.days(60);
            gun.buys(60);
        }
        gun.days(32);
        Check.due("3 times 3332", gun.count(4), 9996);
        gun.days(1);
        Check.due("3 times 3333", gun.count(4), 9999);
        gun.days(1);
        Check.due("no more", gun.count(4), 9999);
        Check.dueRow("clashes aside", gun, 3, 0);
    }

    private static void promise12MuteStaysAt999() {
        NoonGun gun = new NoonGun();
        gun.days(20);
        for (int i = 1; i <= 17; i++) {
            gun.days(60);
            Check.dueRow("all are told", gun, 0, 60);
            Check.due("mute", gun.count(5), Math.min(999, 60 * i));
        }
        Check.due("days go on", gun.count(2), 20 + 17 * 60);
        gun.undo();
        gun.days(39);
        Check.due("999 at last", gun.count(5), 999);
        gun.days(1);
        Check.due("999 still", gun.count(5), 999);
    }

    // ---- 13: buys

    private static void promise13AnotherN() {
        for (int n : new int[] {0, -1, 100, LEAST, MOST}) {
            Twins.refused("buys " + n, -1, gun -> gun.buys(n));
        }
        Twins.refusedIn(EdgesOfDaysTest::withoutPowder, "100 without powder", -1, gun -> gun.buys(100));
        Twins.refusedIn(EdgesOfDaysTest::fullOfPowder, "0 with all of it", -1, gun -> gun.buys(0));
    }

    private static NoonGun withoutPowder() {
        NoonGun gun = new NoonGun();
        gun.days(20);
        return gun;
    }

    private static NoonGun fullOfPowder() {
        NoonGun gun = new NoonGun();
        gun.buys(79);
        return gun;
    }

    private static void promise13MoreThan99() {
        Twins.refusedIn(Twins::midTown, "99", -3, gun -> gun.buys(99));
        Twins.refusedIn(NoonGun::new, "80", -3, gun -> gun.buys(80));
        Twins.refusedIn(EdgesOfDaysTest::fullOfPowder, "1", -3, gun -> gun.buys(1));
        Twins.refusedIn(EdgesOfDaysTest::fullOfPowder, "99", -3, gun -> gun.buys(99));
    }

    private static void promise13JustTo99() {
        Check.due("79", new NoonGun().buys(79), 99);
        Check.due("99", withoutPowder().buys(99), 99);
    }

    private static void promise13TheLeast() {
        NoonGun gun = withoutPowder();
        Check.due("1", gun.buys(1), 1);
        Check.due("powder", gun.count(3), 1);
        Check.due("one more", gun.buys(1), 2);
    }

    // ---- 14: hauls

    private static void promise14NoPlace() {
        for (int v : NO_PLACE) {
            Twins.refused("x " + v, -1, gun -> gun.hauls(v, 5));
            Twins.refused("y " + v, -1, gun -> gun.hauls(5, v));
            Twins.refused("both " + v, -1, gun -> gun.hauls(v, v));
        }
        // 0 and 10, told as one number, would be 1, 0.
        Twins.refused("0, 10", -1, gun -> gun.hauls(0, 10));
        Twins.refused("1, -10", -1, gun -> gun.hauls(1, -10));
    }

    private static void promise14ItIsThere() {
        Twins.refused("where it is", -2, gun -> gun.hauls(gun.count(6), gun.count(7)));
    }

    private static void promise14ItIsThereAgain() {
        NoonGun gun = new NoonGun();
        gun.hauls(9, 0);
        Check.due("there", gun.hauls(9, 0), -2);
        Check.due("where it was", gun.hauls(0, 0), 9);
        Check.due("there, too", gun.hauls(0, 0), -2);
    }

    private static void promise14FromCornerToCorner() {
        NoonGun gun = new NoonGun();
        Check.due("to 9, 9", gun.hauls(9, 9), 18);
        Check.due("x", gun.count(6), 9);
        Check.due("y", gun.count(7), 9);
        Check.due("to 0, 9", gun.hauls(0, 9), 9);
        Check.due("to 9, 0", gun.hauls(9, 0), 18);
        Check.due("to 0, 0", gun.hauls(0, 0), 9);
        Check.due("by one", gun.hauls(0, 1), 1);
    }

    // ---- 15: moves

    private static void promise15NoPlace() {
        for (int v : NO_PLACE) {
            Twins.refused("x " + v, -1, gun -> gun.moves(0, v, 5));
            Twins.refused("y " + v, -1, gun -> gun.moves(0, 5, v));
        }
        Twins.refused("0, 10", -1, gun -> gun.moves(0, 0, 10));
        Twins.refused("1, -10", -1, gun -> gun.moves(0, 1, -10));
    }

    private static void promise15NoneSuch() {
        for (int house : new int[] {-1, 8, 9, LEAST, MOST}) {
            Twins.refused("house " + house, -1, gun -> gun.moves(house, 3, 4));
        }
        Twins.refusedIn(NoonGun::new, "house 0 of none", -1, gun -> gun.moves(0, 3, 4));
        Twins.refusedIn(Twins::midTown, "house 3 of three", -1, gun -> gun.moves(3, 3, 4));
        Twins.refusedIn(NoonGun::new, "house 0 of none to 0, 0", -1, gun -> gun.moves(0, 0, 0));
    }

    private static void promise15ItIsThere() {
        for (int house = 0; house < 8; house++) {
            int h = house;
            Twins.Call toItself = gun -> gun.moves(h, gun.house(h, 0), gun.house(h, 1));
            Twins.refusedIn(Twins::fullTown, "where " + h + " is", -2, toItself);
        }
    }

    private static void promise15TheFirstAndTheLastFromCornerToCorner() {
        NoonGun gun = Check.town("00;11;22;33;44;55;66;09", "");
        Check.due("the first", gun.moves(0, 9, 9), 18);
        Check.due("x", gun.house(0, 0), 9);
        Check.due("y", gun.house(0, 1), 9);
        Check.due("the last", gun.moves(7, 9, 0), 18);
        Check.due("its x", gun.house(7, 0), 9);
        Check.due("its y", gun.house(7, 1), 0);
        Check.due("by one", gun.moves(7, 9, 1), 1);
    }

    private static void promise15WhereAnotherOneIs() {
        NoonGun gun = Check.town("00;11", "");
        Check.due("there", gun.moves(0, 1, 1), 2);
        Check.due("both hear it together", gun.together(), 3);
    }

    private static void promise15TheWatchStays() {
        NoonGun gun = Check.town("05", "");
        gun.days(1);
        gun.moves(0, 9, 9);
        Check.due("the watch", gun.house(0, 2), 10);
    }

    // ---- 16: takes

    private static void promise16NoneSuch() {
        for (int deed : new int[] {-1, 8, 9, LEAST, MOST}) {
            Twins.refused("deed " + deed, -1, gun -> gun.takes(deed, 5));
        }
        Twins.refusedIn(NoonGun::new, "deed 0 of none", -1, gun -> gun.takes(0, 1));
        Twins.refusedIn(Twins::midTown, "deed 4 of four", -1, gun -> gun.takes(4, 1));
    }

    private static void promise16AnotherLength() {
        for (int v : new int[] {0, -1, 10, LEAST, MOST}) {
            Twins.refused("length " + v, -1, gun -> gun.takes(0, v));
        }
    }

    private static void promise16ItIsSo() {
        for (int deed = 0; deed < 8; deed++) {
            int d = deed;
            Twins.refusedIn(Twins::fullTown, "as " + d + " is", -2, gun -> gun.takes(d, gun.deed(d, 1)));
        }
    }

    private static void promise16TheLeastAndTheMost() {
        NoonGun gun = Check.crowd();
        Check.due("1", gun.takes(0, 1), 9);
        Check.due("9", gun.takes(0, 9), 1);
        Check.due("the last deed", gun.takes(7, 8), 9);
        Check.due("its length", gun.deed(7, 1), 8);
    }

    // ---- 17: hill

    private static void promise17NoPlace() {
        for (int v : NO_PLACE) {
            Twins.refused("x " + v, -1, gun -> gun.hill(v, 5));
            Twins.refused("y " + v, -1, gun -> gun.hill(5, v));
        }
        Twins.refused("0, 10", -1, gun -> gun.hill(0, 10));
        Twins.refused("1, -10", -1, gun -> gun.hill(1, -10));
    }

    private static void promise17WhereItIsIs0() {
        NoonGun gun = new NoonGun();
        Check.due("0", gun.hill(9, 9), 0);
        Check.due("it is done", gun.count(11), 1);
        gun.hill(3, 4);
        Check.due("0, elsewhere", gun.hill(3, 4), 0);
        Check.due("three are done", gun.count(11), 3);
    }

    private static void promise17FromCornerToCorner() {
        NoonGun gun = new NoonGun();
        Check.due("to 0, 0", gun.hill(0, 0), 18);
        Check.due("to 9, 0", gun.hill(9, 0), 9);
        Check.due("to 0, 9", gun.hill(0, 9), 18);
        Check.due("by one", gun.hill(0, 8), 1);
    }

    private static void promise17NothingElseMovesTheHill() {
        NoonGun gun = Check.town("55;12", "01a", "e*d");
        gun.hill(8, 7);
        Twins.Call[] acts = {g -> g.days(2), g -> g.buys(3), g -> g.takes(0, 9), g -> Check.week(g, "n1b1l02"),
            g -> g.moves(1, 3, 4), g -> g.keep(0) ? 1 : 0, g -> g.undo(), g -> g.again(0) ? 1 : 0};
        for (int i = 0; i < acts.length; i++) {
            acts[i].make(gun);
            Check.due("echo behind act " + i, gun.house(0, 4), 15 + 5);
        }
    }

    // ---- 18: week

    private static void refusedWeek(String text, int p) {
        Twins.refusedText("week", text, -1 - p, gun -> gun.week());
    }

    private static String standing(String ahead) {
        return Twins.standing(ahead, NoonGun::new, NoonGun::week);
    }

    private static void promise18AnEmptyTextIsNothing() {
        for (Twins.Town town : Twins.TOWNS) {
            Twins.Town ahead = () -> Twins.told(town, "");
            Twins.sameButRow("empty", ahead, () -> Twins.called(ahead, gun -> gun.week()));
            NoonGun gun = ahead.make();
            Check.due("empty", gun.week(), 0);
            Check.dueRow("empty", gun, 0, gun.count(4));
        }
    }

    private static void promise18EndsTooEarly() {
        String[] texts = {"n", "b", "g", "g1", "m", "m1", "m12", "l", "l1", "n1b", "n1g2", "n0b1g11m001l", "l11m22"};
        for (String text : texts) {
            refusedWeek(text, text.length());
        }
    }

    private static void promise18WhichActsCanStand() {
        Check.due("the first", standing(""), "bglmn");
        Check.due("behind one", standing("n0"), "bglmn");
        Check.due("behind m's digits", standing("m001"), "bglmn");
    }

    private static void promise18WhichDigitsCanStand() {
        String all = "0123456789";
        Check.due("n", standing("n"), all);
        Check.due("b", standing("b"), all.substring(1));
        Check.due("g", standing("g"), all);
        Check.due("g, y", standing("g0"), all);
        Check.due("m", standing("m"), all);
        Check.due("m, x", standing("m0"), all);
        Check.due("m, y", standing("m00"), all);
        Check.due("l", standing("l"), all);
        Check.due("l, length", standing("l0"), all.substring(1));
    }

    private static void promise18NothingIsDoneIfASignCannotStand() {
        refusedWeek("n9b9x", 4);
        refusedWeek("n1g55b0", 6);
        refusedWeek("n1l00", 4);
        refusedWeek("b1g5", 4);
        refusedWeek("n1 n1", 2);
        refusedWeek("n10", 2);
        refusedWeek("!", 0);
    }

    private static void promise18SixtySigns() {
        NoonGun gun = Check.smallTown();
        Check.due("thirty acts", Check.week(gun, SIXTY), 30);
        Check.dueRow("thirty acts", gun, 0, 0);
        Check.due("twenty acts", Check.week(gun, "g11g00".repeat(10)), 20);
        Check.due("sixty with days", Check.week(gun, "n1".repeat(30)), 30);
        Check.due("days", gun.count(2), 30);
    }

    private static void promise18MoreThanSixty() {
        String[] sixties = {SIXTY, "m01" + "2" + "n0".repeat(28), "n0".repeat(29) + "g1", "n0".repeat(28) + "m123",
            "n0".repeat(28) + "g22" + "b", "n0".repeat(28) + "g22n"};
        String[] behind = {"n", "n0", "1", "!", "\u00ff".repeat(20)};
        for (String sixty : sixties) {
            for (String signs : behind) {
                refusedWeek(sixty + signs, 60);
            }
        }
    }

    private static void promise18AFaultAheadOfSixty() {
        for (int p = 0; p < 60; p++) {
            String text = SIXTY.substring(0, p) + "!" + SIXTY.substring(p + 1) + "n0";
            Twins.refusedTextIn(Twins::midTown, "week", text, -1 - p, gun -> gun.week());
        }
        // Sixty signs that end too early.
        refusedWeek("n0".repeat(28) + "g22b", 60);
    }

    /** Each of these is refused at once; what stands behind it is not done, and nothing is kept. */
    private static void promise18TheFirstIsRefused() {
        String[] acts = {"b9", "g" + "42", "m042", "l07", "m942", "l93"};
        for (String act : acts) {
            Twins.Town town = () -> refusing(act + "n1b1g99m099l01");
            NoonGun gun = town.make();
            Check.due("of " + act, gun.week(), 0);
            Check.dueRow("of " + act, gun, 1, gun.count(4));
            Twins.sameButRow("of " + act, () -> refusing(""), () -> Twins.called(town, g -> g.week()));
        }
    }

    /** Gun and HOUSE 0 on 4, 2, DEED 0 with LENGTH 7, POWDER 91, and this text. */
    private static NoonGun refusing(String text) {
        NoonGun gun = Check.town("42;55", "07a;11a");
        gun.hauls(4, 2);
        gun.days(1);
        gun.buys(72);
        Check.text(gun, text);
        return gun;
    }

    private static void promise18TheOneInTheMidstIsRefused() {
        NoonGun gun = refusing("n1b1g99g99n9");
        Check.due("three are done", gun.week(), 3);
        Check.dueRow("refused", gun, 1, gun.count(4));
        Check.due("the day", gun.count(2), 2);
        Check.due("the powder", gun.count(3), 91);
        Check.due("the gun", gun.count(6) * 10 + gun.count(7), 99);
        Check.due("one to undo", gun.undo(), 3);
        Check.due("the day back", gun.count(2), 1);
        Check.due("the gun back", gun.count(6) * 10 + gun.count(7), 42);
    }

    private static void promise18TheLastOneIsRefused() {
        NoonGun gun = refusing("n1l08l08");
        Check.due("two are done", gun.week(), 2);
        Check.due("refused", gun.row(0), 1);
        Check.due("the length", gun.deed(0, 1), 8);
    }

    private static void promise18ClashesThenStayAt9999() {
        NoonGun gun = Check.crowd();
        for (int i = 0; i < 5; i++) {
            gun.buys(60 - (i == 0 ? 20 : 0));
            gun.days(60);
        }
        gun.buys(60);
        Check.due("27 days", Check.week(gun, "n9n9n9"), 3);
        Check.dueRow("not yet", gun, 0, 28 * 327);
        Check.due("30 days", Check.week(gun, "n9n9n9n3"), 4);
        Check.dueRow("9996", gun, 0, 9996);
        Check.due("one more", Check.week(gun, "n1"), 1);
        Check.dueRow("9999", gun, 0, 9999);
    }

    private static void promise18DaysOf0AreDone() {
        NoonGun gun = new NoonGun();
        Check.due("one", Check.week(gun, "n0"), 1);
        Check.dueRow("one", gun, 0, 0);
        Check.due("to undo", gun.count(11), 1);
    }

    private static void promise18TheMostOfEach() {
        NoonGun gun = Check.town("00;11;22;33;44;55;66;77", "01a;01a;01a;01a;01a;01a;01a;01a");
        Check.due("five", Check.week(gun, "b9n9g99m799l79"), 5);
        Check.due("powder", gun.count(3), 20);
        Check.due("day", gun.count(2), 9);
        Check.due("gun", gun.count(6) * 10 + gun.count(7), 99);
        Check.due("house", gun.house(7, 0) * 10 + gun.house(7, 1), 99);
        Check.due("length", gun.deed(7, 1), 9);
        Check.due("no house 8", Check.week(gun, "m800"), 0);
        Check.due("no deed 8", Check.week(gun, "l81"), 0);
    }

    // ---- 19: undo

    private static void promise19None() {
        Twins.refusedIn(NoonGun::new, "undo", -1, gun -> gun.undo());
        Twins.refusedIn(() -> undoneAll(Twins.midTown()), "undo of none more", -1, gun -> gun.undo());
        Twins.refusedIn(() -> undoneAll(Twins.fullTown()), "undo of a full one", -1, gun -> gun.undo());
    }

    private static NoonGun undoneAll(NoonGun gun) {
        for (int left = gun.count(11); left > 0; left--) {
            gun.undo();
        }
        return gun;
    }

    private static void promise19TheLastOne() {
        NoonGun gun = new NoonGun();
        gun.buys(1);
        Check.due("none is left", gun.undo(), 0);
        Check.due("powder", gun.count(3), 20);
        Check.due("refused", gun.undo(), -1);
        Check.due("powder still", gun.count(3), 20);
    }

    private static void promise19FifteenAreKept() {
        for (int acts = 14; acts <= 32; acts++) {
            NoonGun gun = new NoonGun();
            for (int i = 0; i < acts; i++) {
                gun.buys(1);
            }
            int kept = Math.min(15, acts);
            Check.due("kept of " + acts, gun.count(11), kept);
            for (int left = kept - 1; left >= 0; left--) {
                Check.due("left of " + acts, gun.undo(), left);
                Check.due("powder", gun.count(3), 20 + acts - kept + left);
            }
            Check.due("no more of " + acts, gun.undo(), -1);
        }
    }

    private static void promise19TheLatestOnesBehindSomeUndone() {
        NoonGun gun = new NoonGun();
        for (int i = 0; i < 15; i++) {
            gun.buys(1);
        }
        for (int i = 0; i < 5; i++) {
            gun.undo();
        }
        for (int i = 0; i < 7; i++) {
            gun.buys(2);
        }
        Check.due("fifteen", gun.count(11), 15);
        for (int left = 14; left >= 0; left--) {
            Check.due("left", gun.undo(), left);
            Check.due("powder", gun.count(3), left >= 8 ? 30 + 2 * (left - 8) : 22 + left);
        }
        Check.due("no more", gun.undo(), -1);
    }

    private static void promise19SuchAsWereRefusedAreNot() {
        NoonGun gun = Check.smallTown();
        gun.buys(0);
        gun.buys(80);
        gun.days(61);
        gun.hauls(0, 0);
        gun.hauls(10, 0);
        gun.moves(0, 1, 0);
        gun.moves(3, 0, 0);
        gun.takes(0, 3);
        gun.takes(0, 0);
        gun.hill(0, 10);
        Check.due("none", gun.count(11), 0);
        Check.due("refused", gun.undo(), -1);
    }

    private static void promise19SuchAsWereRefusedTakeNoRoom() {
        NoonGun gun = new NoonGun();
        for (int i = 0; i < 15; i++) {
            gun.buys(1);
            gun.buys(0);
            gun.hauls(0, 0);
            gun.days(-1);
        }
        undoneAll(gun);
        Check.due("powder", gun.count(3), 20);
    }

    private static void promise19EachActIsOne() {
        NoonGun gun = Check.smallTown();
        gun.days(0);
        Check.due("days", gun.count(11), 1);
        gun.buys(1);
        Check.due("buys", gun.count(11), 2);
        gun.hauls(1, 1);
        Check.due("hauls", gun.count(11), 3);
        gun.moves(0, 5, 5);
        Check.due("moves", gun.count(11), 4);
        gun.takes(0, 9);
        Check.due("takes", gun.count(11), 5);
        gun.hill(9, 9);
        Check.due("hill", gun.count(11), 6);
        Check.week(gun, "n0n1b1");
        Check.due("week", gun.count(11), 7);
        gun.sheet(2, 4, 1, 1);
        Check.week(gun, "");
        Check.week(gun, "g11");
        gun.keep(0);
        gun.heard(0, 3);
        gun.years(1, 60);
        Check.due("no others", gun.count(11), 7);
        Check.due("the hill is back, and so on", undoneAll(gun).count(3), 20);
        Check.due("gun", gun.count(6) + gun.count(7) + gun.count(2), 0);
        Check.due("house", gun.house(0, 0) * 10 + gun.house(0, 1), 10);
        Check.due("length", gun.deed(0, 1), 3);
    }

    private static void promise19AWeekOfWhichNoneWasDoneIsNot() {
        NoonGun gun = new NoonGun();
        Check.week(gun, "");
        Check.week(gun, "g00");
        Check.week(gun, "b1x");
        Check.due("none", gun.count(11), 0);
    }

    private static void promise19AWeekOfWhichOneWasDoneIsOne() {
        NoonGun gun = new NoonGun();
        Check.week(gun, "b1g00b1");
        Check.due("one", gun.count(11), 1);
        Check.due("undone", gun.undo(), 0);
        Check.due("powder", gun.count(3), 20);
    }

    private static void promise19MuteAndClashesAtTheirMost() {
        NoonGun gun = Check.crowd();
        for (int i = 0; i < 6; i++) {
            gun.buys(99 - gun.count(3));
            gun.days(60);
        }
        gun.undo();
        Check.due("clashes", gun.count(4), 8400);
        gun.days(60);
        gun.days(39);
        for (int i = 0; i < 17; i++) {
            gun.days(60);
        }
        Check.due("mute", gun.count(5), 999);
        gun.undo();
        Check.due("mute, undone", gun.count(5), 960);
        Check.due("clashes still", gun.count(4), 9999);
    }

    private static void promise19EachActUndoneAlone() {
        Twins.Call[] acts = {gun -> gun.days(3), gun -> gun.buys(5), gun -> gun.hauls(9, 8), gun -> gun.moves(2, 0, 9),
            gun -> gun.takes(3, 9), gun -> gun.hill(0, 0), gun -> Check.week(gun, "n1b1g11m011l01")};
        for (int i = 0; i < acts.length; i++) {
            Twins.Call act = acts[i];
            Twins.sameButRow("act " + i, EdgesOfDaysTest::mid, () -> doneAndUndone(act));
        }
    }

    private static NoonGun doneAndUndone(Twins.Call act) {
        NoonGun gun = mid();
        int many = gun.count(11);
        Check.due("done", act.make(gun) >= 0, true);
        Check.due("undone", gun.undo(), many);
        return gun;
    }

    private static void promise19WhatItBringsBack() {
        Twins.sameButRow("a week undone", EdgesOfDaysTest::mid, EdgesOfDaysTest::midUndone);
    }

    private static NoonGun mid() {
        return Twins.told(Twins::midTown, "");
    }

    private static NoonGun midUndone() {
        NoonGun gun = mid();
        Check.week(gun, "n9b9g77m033l19n9n9m199l35l01g05b5n9");
        gun.undo();
        gun.days(60);
        gun.hill(0, 0);
        gun.moves(2, 9, 9);
        gun.undo();
        gun.undo();
        gun.undo();
        return gun;
    }

    private static void promise19WhatItDoesNotBringBack() {
        NoonGun gun = Check.smallTown();
        gun.days(1);
        Check.winds(gun, "5");
        Check.damps(gun, "6");
        Check.rule(gun, "9");
        gun.heard(0, 15);
        gun.keep(2);
        Check.text(gun, "abc");
        gun.undo();
        Check.due("winds", gun.count(8), 5);
        Check.due("damps", gun.count(9), 6);
        Check.due("rule", gun.house(0, 3), 15);
        Check.due("heard", gun.count(10), 1);
        Check.due("the text", gun.count(13), 3);
        Check.dueRow("the row", gun, 1, 0);
        Check.due("kept", gun.again(2), true);
        Check.due("as it was", gun.count(2), 1);
    }

    private static void promise19LengthsOfASheet() {
        NoonGun gun = Check.smallTown();
        gun.buys(1);
        gun.sheet(2, 4, 9, 0);
        gun.undo();
        Check.due("as ahead of it", gun.deed(1, 1), 2);
        gun.sheet(2, 4, 9, 0);
        gun.buys(1);
        gun.undo();
        Check.due("as the sheet told", gun.deed(1, 1), 9);
    }

    private static void promise19HousesForgetThem() {
        NoonGun gun = mid();
        Check.due("some", gun.count(11) > 0, true);
        Check.houses(gun, "00");
        Check.due("none", gun.count(11), 0);
        Check.due("undo", gun.undo(), -1);
        gun.buys(1);
        Check.due("new ones", gun.undo(), 0);
    }

    private static void promise19DeedsForgetThem() {
        NoonGun gun = mid();
        Check.deeds(gun, "01a");
        Check.due("none", gun.count(11), 0);
        Check.due("undo", gun.undo(), -1);
        gun.buys(1);
        Check.due("new ones", gun.undo(), 0);
    }

    private static void promise19AgainForgetsThem() {
        NoonGun gun = Twins.midTown();
        Check.due("again", gun.again(1), true);
        Check.due("none", gun.count(11), 0);
        Check.due("undo", gun.undo(), -1);
        gun.buys(1);
        Check.due("new ones", gun.undo(), 0);
    }

    private static void promise19RefusedOnesForgetNothing() {
        String[] texts = {"x", "1", "11;", "11;2", "000"};
        for (String text : texts) {
            NoonGun gun = Twins.told(Twins::fullTown, "");
            int many = gun.count(11);
            Check.due("all fifteen", many, 15);
            Check.due("houses", Check.houses(gun, text) < 0, true);
            Check.due("deeds", Check.deeds(gun, text) < 0, true);
            Check.due("again", gun.again(3), false);
            Check.due("again", gun.again(-1), false);
            Check.due("none is forgotten", gun.count(11), 15);
        }
    }

    private static void promise19EmptyTextsForgetNothing() {
        NoonGun gun = Twins.told(Twins::fullTown, "");
        Check.houses(gun, "");
        Check.deeds(gun, "");
        Check.due("none is forgotten", gun.count(11), 15);
        Check.due("undone", gun.undo(), 14);
    }
}

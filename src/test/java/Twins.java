/**
 * Towns with the same calls behind them, of which one alone is called once more: what that changes.
 * No object is called more than 512 times, so each look at a town is at a new one.
 */
final class Twins {
    interface Town {
        NoonGun make();
    }

    interface Call {
        long make(NoonGun gun);
    }

    static final int LOOKS = 14;

    /** Towns that differ in all that can be empty or full. */
    static final Town[] TOWNS = {NoonGun::new, Twins::midTown, Twins::fullTown};

    private static final Call[] QUESTIONS = {
        NoonGun::order, NoonGun::clashes, NoonGun::span, gun -> gun.lane(0), gun -> gun.lane(3), gun -> gun.ahead(3),
        NoonGun::quiet, NoonGun::lasts, NoonGun::fewest, NoonGun::longest, NoonGun::best, NoonGun::middle,
        gun -> gun.holds(1), NoonGun::hands, gun -> gun.echo(1), NoonGun::together, NoonGun::fits, NoonGun::asks,
        gun -> gun.menders(7), NoonGun::apart, gun -> gun.misfires(9, 4, 3), gun -> gun.misfires(2, 3, 5),
        gun -> gun.forts(7, 20), gun -> Check.law(gun, "((((d))))*(w<m)-y"), gun -> gun.rests(9),
        gun -> gun.years(5, 60),
    };

    static final String SIXTY_SIGNS = "n1b2g34m256l19".repeat(4) + "n0n9";

    private Twins() {
    }

    /** Some of all. */
    static NoonGun midTown() {
        NoonGun gun = Check.smallTown();
        Check.winds(gun, "0374");
        Check.damps(gun, "19264");
        gun.keep(1);
        gun.days(2);
        gun.hauls(1, 2);
        gun.heard(0, 6);
        gun.keep(2);
        gun.hill(8, 4);
        gun.best();
        Check.text(gun, "98765");
        return gun;
    }

    /** Eight HOUSES and DEEDS, all of the past and of what can be kept or heard, a full text; mute. */
    static NoonGun fullTown() {
        NoonGun gun = Check.town("10;02;55;91;38;64;77;02", "01a;12abc;23b;39abcd;44ad;55bd;66c;77cd");
        Check.winds(gun, "03749182736455463728");
        Check.damps(gun, "1926450837");
        Check.rule(gun, "d*3-w+n+e*7-(x>4)*m");
        gun.keep(0);
        gun.days(7);
        gun.hauls(4, 3);
        gun.keep(1);
        gun.days(18);
        gun.hill(2, 7);
        gun.keep(2);
        for (int i = 0; i < 4; i++) {
            gun.hauls(i + 1, 9 - i);
            gun.moves(i, 9 - i, i);
            gun.takes(i, 9 - i);
            gun.days(i);
        }
        for (int i = 0; i < 10; i++) {
            gun.heard(i % 8, gun.house(i % 8, 3));
        }
        gun.hands();
        Check.text(gun, SIXTY_SIGNS + "01234567890123456789");
        return gun;
    }

    /** A town in which some days went by, some is kept, heard and told, and can be undone. */
    static NoonGun lived(NoonGun gun) {
        gun.keep(0);
        gun.hauls(7, 1);
        gun.days(1);
        gun.keep(1);
        gun.hill(2, 6);
        gun.days(2);
        gun.keep(2);
        gun.heard(0, 199);
        gun.best();
        gun.end(0);
        Check.text(gun, "86420");
        return gun;
    }

    /** In all towns the call is refused, and nothing changes. */
    static void refused(String what, long answer, Call call) {
        for (Town town : TOWNS) {
            refusedIn(town, what, answer, call);
        }
    }

    static void refusedIn(Town town, String what, long answer, Call call) {
        Check.due(what, call.make(town.make()), answer);
        unchanged(what, town, () -> called(town, call));
    }

    /** In all towns a call that reads this text is refused: THE TEXT is emptied, nothing else changes. */
    static void refusedText(String what, String text, long answer, Call call) {
        for (Town town : TOWNS) {
            refusedTextIn(town, what, text, answer, call);
        }
    }

    static void refusedTextIn(Town town, String what, String text, long answer, Call call) {
        String label = what + " of '" + text + "'";
        Check.due(label, call.make(told(town, text)), answer);
        unchanged(label, () -> told(town, ""), () -> called(() -> told(town, text), call));
    }

    /** In all towns the call throws, and nothing changes. */
    static void throwsNoSuch(String what, Call call) {
        for (Town town : TOWNS) {
            throwsNoSuchIn(town, what, call);
        }
    }

    static void throwsNoSuchIn(Town town, String what, Call call) {
        Check.dueNoSuch(what, () -> call.make(town.make()));
        unchanged(what, town, () -> called(town, call));
    }

    /** A question: in all towns it changes nothing but the ROW. */
    static void asksAlone(String what, Call call) {
        for (Town town : TOWNS) {
            sameButRow(what, town, () -> called(town, call));
        }
    }

    static void sameButRow(String what, Town ahead, Town behind) {
        for (int look = 0; look < LOOKS; look++) {
            Check.due(what + ", look " + look, seen(behind.make(), look, false), seen(ahead.make(), look, false));
        }
    }

    static void unchanged(String what, Town ahead, Town behind) {
        for (int look = 0; look < LOOKS; look++) {
            Check.due(what + ", look " + look, seen(behind.make(), look, true), seen(ahead.make(), look, true));
        }
    }

    static NoonGun called(Town town, Call call) {
        NoonGun gun = town.make();
        answer(() -> call.make(gun));
        return gun;
    }

    /** A town with this text alone as THE TEXT. */
    static NoonGun told(Town town, String text) {
        NoonGun gun = town.make();
        gun.end(0);
        Check.text(gun, text);
        return gun;
    }

    /**
     * Which of all signs can stand behind a text, told by where it is at fault. A fault stands behind
     * each of them, so that no text comes.
     */
    static String standing(String ahead, Town town, Call reader) {
        StringBuilder standing = new StringBuilder();
        for (char sign = 0; sign < 256; sign++) {
            if (reader.make(told(town, ahead + sign + "!")) != -1 - ahead.length()) {
                standing.append(sign);
            }
        }
        return standing.toString();
    }

    private static String answer(Check.Call call) {
        try {
            return call.make() + " ";
        } catch (java.util.NoSuchElementException e) {
            return "- ";
        }
    }

    static String seen(NoonGun gun, int look, boolean rowToo) {
        StringBuilder seen = new StringBuilder();
        switch (look) {
            case 0:
                seeCounts(gun, rowToo, seen);
                break;
            case 1:
                seeHouses(gun, 0, 5, seen);
                seeDeeds(gun, 0, 4, seen);
                break;
            case 2:
                seeDays(gun, seen);
                break;
            case 3:
                seeRule(gun, seen);
                break;
            case 4:
            case 5:
            case 6:
                seePast(gun, look, seen);
                break;
            case 7:
            case 8:
            case 9:
                seeKept(gun, look - 7, seen);
                break;
            case 10:
                seeReports(gun, seen);
                break;
            case 11:
                for (int i = 0; i < QUESTIONS.length; i++) {
                    seeAnswer(gun, QUESTIONS[i], seen);
                }
                break;
            case 12:
                for (int i = QUESTIONS.length - 1; i >= 0; i--) {
                    seeAnswer(gun, QUESTIONS[i], seen);
                }
                break;
            default:
                seeText(gun, seen);
        }
        return seen.toString();
    }

    /** The ROW comes first: to ask for counts might change it. */
    private static void seeCounts(NoonGun gun, boolean rowToo, StringBuilder seen) {
        if (rowToo) {
            seeRow(gun, seen);
        }
        for (int what = 0; what <= 13; what++) {
            seen.append(what == 12 && !rowToo ? "" : gun.count(what) + " ");
        }
    }

    private static void seeRow(NoonGun gun, StringBuilder seen) {
        seen.append(": ");
        for (int i = -1; i <= 16; i++) {
            int number = i;
            seen.append(answer(() -> gun.row(number)));
        }
    }

    private static void seeHouses(NoonGun gun, int from, int to, StringBuilder seen) {
        for (int house = 0; house < 8; house++) {
            for (int what = from; what <= to; what++) {
                int h = house;
                int w = what;
                seen.append(answer(() -> gun.house(h, w)));
            }
        }
    }

    private static void seeDeeds(NoonGun gun, int from, int to, StringBuilder seen) {
        for (int deed = 0; deed < 8; deed++) {
            for (int what = from; what <= to; what++) {
                int d = deed;
                int w = what;
                seen.append(answer(() -> gun.deed(d, w)));
            }
        }
    }

    private static void seeDays(NoonGun gun, StringBuilder seen) {
        for (int n = 0; n < 20; n++) {
            seen.append(gun.ahead(n)).append(' ').append(gun.row(0)).append(' ').append(gun.row(1)).append(' ');
        }
        seen.append(gun.quiet()).append(' ').append(gun.lasts()).append(' ').append(gun.row(0));
    }

    private static void seeRule(NoonGun gun, StringBuilder seen) {
        gun.end(0);
        seen.append(Check.houses(gun, "18;94")).append(' ');
        for (int n = 0; n < 8; n++) {
            seeHouses(gun, 3, 4, seen);
            gun.days(1);
        }
        // Another rule comes as it would have come ahead.
        seen.append(Check.rule(gun, "((((d))))-w*(x<y)+(m=3)"));
        seeHouses(gun, 3, 4, seen);
    }

    private static void seeAnswer(NoonGun gun, Call question, StringBuilder seen) {
        gun.end(0);
        seen.append(question.make(gun)).append(": ");
        int many = gun.count(12);
        for (int i = 0; i < many; i++) {
            seen.append(gun.row(i)).append(' ');
        }
    }

    private static void seePast(NoonGun gun, int look, StringBuilder seen) {
        for (int i = 0; i <= 15; i++) {
            seen.append(gun.undo()).append(": ");
            if (look == 4) {
                for (int what = 2; what <= 7; what++) {
                    seen.append(gun.count(what)).append(' ');
                }
                seeHouses(gun, 4, 4, seen);
            } else if (look == 5) {
                seeHouses(gun, 2, 2, seen);
                seeDeeds(gun, 1, 1, seen);
            } else {
                seeHouses(gun, 0, 1, seen);
            }
        }
    }

    /** From each of them on: what is looked at ahead of one might change it. */
    private static void seeKept(NoonGun gun, int first, StringBuilder seen) {
        for (int i = first; i < first + 3; i++) {
            seen.append(gun.again(i % 3)).append(": ");
            for (int what = 2; what <= 11; what++) {
                seen.append(gun.count(what)).append(' ');
            }
            seeHouses(gun, 0, 4, seen);
            seeDeeds(gun, 1, 1, seen);
        }
    }

    private static void seeReports(NoonGun gun, StringBuilder seen) {
        seen.append(gun.fits());
        seeRow(gun, seen);
        seen.append(gun.asks());
        seeRow(gun, seen);
        for (int i = 0; i < 11; i++) {
            seen.append(gun.heard(0, 199)).append(' ');
        }
        seen.append(gun.forget()).append(' ').append(gun.heard(0, 199));
    }

    /** Sixty signs can be told by a week, others by the digits of winds. */
    private static void seeText(NoonGun gun, StringBuilder seen) {
        int length = gun.count(13);
        seen.append(length).append(' ');
        if (length > 20) {
            gun.end(60);
            seen.append(gun.week());
            seeRow(gun, seen);
            seeCounts(gun, true, seen);
            return;
        }
        seen.append(gun.winds()).append(' ');
        seeDays(gun, seen);
    }
}

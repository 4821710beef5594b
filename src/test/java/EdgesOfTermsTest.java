import java.util.NoSuchElementException;

/** "Terms", ahead of the tick and behind it: each sentence that names a boundary has a test of its own. */
public final class EdgesOfTermsTest {
    private static final String[] RULES = {"every", "wait", "gap", "delay"};
    private static final int[] LEAST = {1, 1, 0, 1};
    private static final int[] GREATEST = {30, 30, 30, 3};

    public static void main(String[] args) {
        callsUpTo512();
        membersTwoToEight();
        ranksUpTo99();
        ranksUnlike();
        jobsOneToSix();
        rulesInTexts();
        clockAtFirst();
        linksAtFirst();
        partsGoRound();
        partsOfFewJobs();
        partsByRanks();
        partsOfUp();
        aloneAtFirst();
        aloneAgain();
        circlesOfNormalOnes();
        setsAlongThoseThatStand();
        setsAlongCuts();
        oneNeedsNormal();
        oneNeedsTheCircle();
        oneNeedsUp();
        oneOfThoseThatStand();
        soundCircles();
        twiceWhileApart();
        twiceOfSixJobs();
        talliesAtFirst();
        changesNotAtFirst();
        changesToAnotherGroup();
        changesLatestForty();
        nothingStaysOnPaper();
        Check.end();
    }

    /** "An object is used for at most 512 calls": no number goes over in these. */
    private static void callsUpTo512() {
        ChiefCircles x = new ChiefCircles();
        x.cut(1);
        for (int k = 0; k < 500; k++) {
            x.ticks(100);
        }
        Check.due("clock", 50_000, x.told(6));
        Check.due("work of two, apart", 100_000, x.job(0, 0) + x.job(1, 0) + x.job(2, 0));
        Check.due("twice", 50_000, x.told(13));
        Check.due("normal", 50_000, x.tally(0, 0));
        Check.due("asked every 12", 2 * 4167, x.sent(0, 0));
        Check.due("lost, but the last", 8332, x.told(8));
        Check.due("one", 0, x.until());
        Check.due("the 510th call", 49_999, x.ticks(1) + x.tally(1, 0) - 2);
    }

    /** "MEMBERS 0 to N less 1 (N 2 to 8)" */
    private static void membersTwoToEight() {
        for (int n = 2; n <= 8; n++) {
            int beyond = n;
            ChiefCircles x = Check.made("members " + n + ";");
            Check.due("members", n, x.told(0));
            Check.due("the last", n - 1, x.member(n - 1, 2));
            Check.refuses("beyond", NoSuchElementException.class, () -> x.member(beyond, 2));
        }
        for (String n : new String[] {"0", "1", "9", "10", "08000", "18446744073709551618"}) {
            Check.fault("members " + n + ";", 2, 8);
        }
    }

    /** "each with a RANK (0 to 99 ..)" */
    private static void ranksUpTo99() {
        ChiefCircles x = Check.made("members 2;ranks 0 99;");
        Check.due("the least", 0, x.member(0, 0));
        Check.due("the greatest", 99, x.member(1, 0));
        Check.fault("members 2;ranks 0 100;", 2, 18);
        Check.fault("members 2;ranks 4294967296 1;", 2, 16);
    }

    /** "(.. unlike ones)" */
    private static void ranksUnlike() {
        Check.fault("members 2;ranks 0 0;", 3, 18);
        Check.fault("members 2;ranks 99 099;", 3, 19);
        Check.fault("members 8;ranks 1 2 3 4 5 6 7 1;", 3, 30);
        Check.fault("members 8;ranks 1 2 3 4 5 6 7 7;", 3, 30);
        ChiefCircles x = Check.made("members 8;");
        for (int i = 0; i < 8; i++) {
            Check.due("without, N less its number", 8 - i, x.member(i, 0));
        }
    }

    /** "JOBS 0 to J less 1 (J 1 to 6)" */
    private static void jobsOneToSix() {
        for (int j = 1; j <= 6; j++) {
            int beyond = j;
            ChiefCircles x = Check.made("members 2;jobs " + j + ";");
            Check.due("jobs", j, x.told(1));
            x.ticks(j);
            Check.due("the last", 1, x.units(0, j - 1, 1));
            Check.due("all its parts", (1 << j) - 1, x.member(0, 9));
            Check.refuses("beyond", NoSuchElementException.class, () -> x.job(beyond, 0));
            Check.refuses("beyond", NoSuchElementException.class, () -> x.units(0, beyond, 0));
        }
        Check.fault("members 2;jobs 0;", 2, 15);
        Check.fault("members 2;jobs 7;", 2, 15);
    }

    /** "RULES: EVERY (1 to 30), WAIT (1 to 30), GAP (0 to 30), DELAY (1 to 3)" */
    private static void rulesInTexts() {
        for (int what = 0; what < 4; what++) {
            String line = "members 2;" + RULES[what] + " ";
            Check.due("the least", LEAST[what], Check.made(line + LEAST[what] + ";").told(2 + what));
            Check.due("the greatest", GREATEST[what], Check.made(line + GREATEST[what] + ";").told(2 + what));
            Check.fault(line + (GREATEST[what] + 1) + ";", 2, line.length());
            if (LEAST[what] > 0) {
                Check.fault(line + (LEAST[what] - 1) + ";", 2, line.length());
            }
        }
    }

    /** "The CLOCK: 0 at first." */
    private static void clockAtFirst() {
        ChiefCircles x = new ChiefCircles();
        Check.due("new", 0, x.told(6));
        x.ticks(1);
        Check.due("a tick", 1, x.told(6));
        Check.text(x, "members 2;");
        Check.due("anew", 0, x.told(6));
    }

    /** "LINKS of each two MEMBERS: whole or CUT.": whole at first. */
    private static void linksAtFirst() {
        ChiefCircles x = Check.made("members 8;");
        Check.due("none is cut", 0, x.heal());
        Check.due("first and last", x.link(0, 7));
        Check.due("last and first", x.link(7, 0));
    }

    private static void parts(String what, ChiefCircles x, int... due) {
        for (int i = 0; i < due.length; i++) {
            Check.due(what + ": part of " + i, due[i], x.member(i, 9));
        }
    }

    private static ChiefCircles one(String text) {
        ChiefCircles x = Check.made(text);
        x.ticks(17);
        Check.due("one", 1, x.told(11));
        return x;
    }

    /** "JOBS k by which k modulo how many UP has is its own place in UP" */
    private static void partsGoRound() {
        parts("as many", one("members 3;jobs 3;every 4;"), 1, 2, 4);
        parts("one more", one("members 3;jobs 4;every 4;"), 9, 2, 4);
        parts("twice as many", one("members 3;jobs 6;every 4;"), 9, 18, 36);
        parts("two of six", one("members 2;jobs 6;every 4;"), 21, 42);
        parts("alone", Check.made("members 2;jobs 6;"), 63, 63);
    }

    /** The same with fewer JOBS than MEMBERS: "each that is NORMAL, and has a PART". */
    private static void partsOfFewJobs() {
        ChiefCircles x = one("members 8;jobs 6;every 4;");
        parts("eight for six", x, 1, 2, 4, 8, 16, 32, 0, 0);
        Check.due("in none", 0, x.told(18));
        Check.due("in more than one", 0, x.told(17));
        int first = x.units(5, 5, 1);
        int last = work(x, 7, 6);
        x.ticks(1);
        Check.due("the sixth does a unit", first + 1, x.units(5, 5, 1));
        Check.due("the eighth does none", last, work(x, 7, 6));
        ChiefCircles y = one("members 3;jobs 1;every 4;");
        parts("three for one", y, 1, 0, 0);
    }

    private static int work(ChiefCircles x, int i, int jobs) {
        int sum = 0;
        for (int job = 0; job < jobs; job++) {
            sum += x.units(i, job, 1);
        }
        return sum;
    }

    /** "(by RANKS, the greatest first, from 0 on)" */
    private static void partsByRanks() {
        parts("upside down", one("members 3;ranks 0 50 99;every 4;"), 4, 2, 1);
        parts("mixed", one("members 4;ranks 5 99 0 7;jobs 4;every 4;wait 4;gap 5;"), 4, 1, 8, 2);
    }

    /** ".. its own place in UP": not in its CIRCLE, whoever of UP is DOWN. */
    private static void partsOfUp() {
        ChiefCircles x = one("members 3;every 4;");
        x.fall(0);
        parts("the rest", x, 0, 2, 4);
        Check.due("in none", 1, x.told(18));
        Check.due("nobody", 0, x.job(0, 3));
    }

    /** "At first each does so (LEDGER, WORK, COUNT 0 ahead)." */
    private static void aloneAtFirst() {
        ChiefCircles x = Check.made("members 8;every 30;");
        for (int i = 0; i < 8; i++) {
            Check.due("count", 1, x.member(i, 3));
            Check.due("group", 10 + i, x.member(i, 4));
            Check.due("chief", i, x.member(i, 2));
            Check.due("up", 1 << i, x.member(i, 5));
            Check.due("normal", 0, x.member(i, 1));
            Check.due("phase", 1, x.member(i, 7));
            Check.due("alarm", 30, x.member(i, 8));
            Check.due("ledger and work", 0, x.units(i, 0, 0) + x.units(i, 0, 1));
        }
    }

    /** "COUNT is 1 more, GROUP 10 times COUNT and its own number .. FOUND, HEARD empty, PHASE 1" */
    private static void aloneAgain() {
        ChiefCircles x = Check.made("members 2;every 4;");
        x.ticks(6);
        Check.due("found", 2, x.member(0, 6));
        x.fall(0);
        x.rise(0);
        Check.due("found is empty", 0, x.member(0, 6));
        ChiefCircles y = Check.made("members 2;every 4;");
        y.ticks(26);
        Check.due("heard", 2, y.member(0, 12));
        y.fall(0);
        y.rise(0);
        Check.due("heard is empty", 0, y.member(0, 12));
        ChiefCircles z = new ChiefCircles();
        for (int count = 2; count <= 120; count++) {
            z.fall(1);
            z.rise(1);
            Check.due("group", 10 * count + 1, z.member(1, 4));
        }
        Check.due("count", 120, z.member(1, 3));
    }

    /** "CIRCLES: MEMBERS that are NORMAL, alike by GROUP." */
    private static void circlesOfNormalOnes() {
        ChiefCircles x = Check.made("members 2;every 4;");
        x.ticks(8);
        Check.due("one is electing", 1, x.told(9));
        Check.due("of who is electing", 0, x.member(0, 11));
        x.ticks(1);
        Check.due("both are", 0, x.told(9));
        x.fall(0);
        x.fall(1);
        Check.due("both are down", 0, x.told(9));
        ChiefCircles y = one("members 8;every 4;");
        Check.due("one of eight", 1, y.told(9));
        Check.due("all", 255, y.member(7, 11));
        y.fall(0);
        y.rise(0);
        Check.due("who rose is one of its own", 2, y.told(9));
        Check.due("without it", 254, y.member(7, 11));
    }

    /** "SETS: MEMBERS that are not DOWN, and come to one another .. (along such that are not DOWN)" */
    private static void setsAlongThoseThatStand() {
        ChiefCircles x = Check.made("members 8;");
        Check.due("one", 1, x.told(10));
        for (int i = 0; i < 8; i++) {
            x.fall(i);
            Check.due("those that stand", i < 7 ? 1 : 0, x.told(10));
            Check.due("of who is down", 0, x.member(i, 10));
            Check.due("of the last", i < 7 ? 255 & -2 << i : 0, x.member(7, 10));
        }
        ChiefCircles y = Check.made("members 3;");
        y.cut(1);
        y.cut(2);
        y.heal();
        y.cut(5);
        Check.due("0 and 2 are linked", 2, y.told(10));
        y.fall(0);
        Check.due("2 is alone", 4, y.member(2, 10));
        Check.due("two", 2, y.told(10));
    }

    /** ".. by LINKS that are whole" */
    private static void setsAlongCuts() {
        ChiefCircles x = Check.made("members 8;");
        for (int i = 0; i < 8; i++) {
            x.cut(1 << i);
            Check.due("sets", i < 7 ? i + 2 : 8, x.told(10));
            Check.due("itself", 1 << i, x.member(i, 10));
        }
    }

    /** "ONE: each MEMBER that is not DOWN is NORMAL" */
    private static void oneNeedsNormal() {
        ChiefCircles x = new ChiefCircles();
        x.ticks(12);
        x.fall(1);
        Check.due("electing alone", 1, x.member(0, 1));
        Check.due("not one", 0, x.told(11));
        x.ticks(7);
        Check.due("not yet", 0, x.told(11));
        x.ticks(1);
        Check.due("normal alone", 0, x.member(0, 1));
        Check.due("one", 1, x.told(11));
    }

    /** ".. its CIRCLE is its SET" */
    private static void oneNeedsTheCircle() {
        ChiefCircles x = new ChiefCircles();
        Check.due("two circles in one set", 0, x.told(11));
        x.cut(1);
        Check.due("two sets", 1, x.told(11));
        x.heal();
        x.ticks(21);
        Check.due("one circle in one set", 1, x.told(11));
        x.cut(2);
        Check.due("one circle in two sets", 0, x.told(11));
    }

    /** ".. and so is its UP" */
    private static void oneNeedsUp() {
        ChiefCircles x = new ChiefCircles();
        x.ticks(21);
        x.fall(1);
        Check.due("circle", x.member(0, 10), x.member(0, 11));
        Check.due("but up has who is down", 3, x.member(0, 5));
        Check.due("not one", 0, x.told(11));
    }

    /** "each MEMBER that is not DOWN": who is DOWN has no say, and of none all is ONE. */
    private static void oneOfThoseThatStand() {
        ChiefCircles x = Check.made("members 8;");
        for (int i = 0; i < 8; i++) {
            Check.due("so many alone", 0, i < 7 ? x.told(11) : 0);
            x.fall(i);
        }
        Check.due("of none", 1, x.told(11));
        x.rise(4);
        Check.due("of one", 1, x.told(11));
    }

    /** "SOUND: of each CIRCLE just one at most is CHIEF itself, and all have the same CHIEF." */
    private static void soundCircles() {
        ChiefCircles x = one("members 8;every 4;");
        Check.due("one chief", 1, x.told(12));
        Check.due("eight of their own", 1, Check.made("members 8;").told(12));
        x.fall(0);
        Check.due("a circle without one", 1, x.told(12));
        Check.due("none is chief itself", 0, x.chiefs());
        x.rise(0);
        Check.due("the old chief has a circle of its own", 1, x.told(12));
        for (int i = 0; i < 8; i++) {
            if (x.member(i, 1) != 2) {
                x.fall(i);
            }
        }
        Check.due("no circle", 1, x.told(12));
    }

    /** "TWICE: of each JOB all WORK together, less the greatest LEDGER of it, together." */
    private static void twiceWhileApart() {
        ChiefCircles x = new ChiefCircles();
        Check.due("nothing done", 0, x.told(13));
        x.fall(1);
        x.ticks(10);
        Check.due("by one alone", 0, x.told(13));
        x.rise(1);
        x.ticks(1);
        Check.due("once more by the other", 1, x.told(13));
        x.fall(0);
        x.fall(1);
        Check.due("of those that are down, too", 1, x.told(13));
    }

    /** The same of the last JOB. */
    private static void twiceOfSixJobs() {
        ChiefCircles x = Check.made("members 8;jobs 6;");
        x.ticks(5);
        Check.due("five jobs by eight", 35, x.told(13));
        x.ticks(1);
        Check.due("six jobs by eight", 42, x.told(13));
        Check.text(x, "members 2;jobs 1;");
        Check.due("nothing of what was", 0, x.told(13));
        x.ticks(3);
        Check.due("one job", 3, x.told(13));
    }

    /** "how often it went ALONE (3; at first, too)" */
    private static void talliesAtFirst() {
        ChiefCircles x = Check.made("members 8;");
        for (int what = 0; what < 7; what++) {
            Check.due("tally(0, " + what + ")", what == 3 ? 1 : 0, x.tally(0, what));
            Check.due("tally(7, " + what + ")", what == 3 ? 1 : 0, x.tally(7, what));
        }
        Check.text(x, "members 8;");
        Check.due("at first, once", 1, x.tally(7, 3));
    }

    /** "whenever GROUP of a MEMBER becomes another one (not at first)" */
    private static void changesNotAtFirst() {
        ChiefCircles x = Check.made("members 8;");
        Check.due("none", 0, x.told(16));
        x.fall(7);
        x.ticks(5);
        Check.due("no other group", 0, x.told(16));
        x.rise(7);
        Check.due("another one", 1, x.told(16));
        int[] due = {5, 7, 17, 27};
        for (int what = 0; what < 4; what++) {
            Check.due("change(0, " + what + ")", due[what], x.change(0, what));
        }
        Check.text(x, "members 8;");
        Check.due("none anew", 0, x.told(16));
    }

    /**
     * "becomes another one": 2 is normal in the group of 3 already, when the INVITE to it comes once more. 1 holds it
     * for one of its own and sent it on late, as 0, which held 1 for one of its own, sent it to 1.
     */
    private static void changesToAnotherGroup() {
        ChiefCircles x = Check.made("members 4;ranks 5 4 3 9;every 4;wait 4;");
        x.fall(2);
        x.fall(3);
        x.ticks(15);
        x.rule(0, 30);
        x.ticks(2);
        Check.due("0 leads 1", 3, x.member(0, 5));
        x.cut(1);
        x.rule(0, 1);
        x.rule(1, 2);
        x.fall(1);
        x.rise(1);
        x.rise(2);
        x.ticks(6);
        x.rule(0, 30);
        x.ticks(2);
        Check.due("1 leads 2", 6, x.member(1, 5));
        x.heal();
        x.fall(2);
        x.rise(2);
        x.rule(0, 1);
        x.rise(3);
        x.cut(2);
        x.ticks(2);
        x.heal();
        x.ticks(1);
        Check.due("3 merges", 4, x.member(3, 7));
        Check.due("and invites 0 and 2", 2, x.told(7));
        x.rule(3, 2);
        x.ticks(2);
        x.rule(3, 3);
        x.ticks(1);
        Check.due("1 sends on, and accepts", 2, x.told(7));
        x.rule(3, 1);
        x.ticks(2);
        Check.due("2 is normal", 0, x.member(2, 1));
        Check.due("of the group of 3", 33, x.member(2, 4));
        int told = x.told(16);
        int invited = x.tally(2, 5);
        x.ticks(1);
        Check.due("2 is invited once more", invited + 1, x.tally(2, 5));
        Check.due("and elects", 1, x.member(2, 1));
        Check.due("but its group is the same", told, x.told(16));
        Check.due("the same", 33, x.member(2, 4));
    }

    /** "the latest 40 are told" */
    private static void changesLatestForty() {
        ChiefCircles x = new ChiefCircles();
        for (int k = 1; k <= 41; k++) {
            x.fall(0);
            x.rise(0);
            Check.due("told", Math.min(k, 40), x.told(16));
            Check.due("the latest", 10 * k + 10, x.change(Math.min(k, 40) - 1, 3));
            Check.due("the eldest", k < 41 ? 10 : 20, x.change(0, 2));
        }
    }

    /** "On paper nothing stays changed." */
    private static void nothingStaysOnPaper() {
        ChiefCircles x = Check.made("members 4;every 3;wait 3;");
        x.ticks(16);
        x.fall(2);
        x.cut(3);
        x.feed(1, 2, 3, 4, 5);
        String before = Picture.whole(x);
        x.until();
        same("until", before, x);
        x.untilBy(0);
        same("untilBy, falling", before, x);
        x.untilBy(2);
        same("untilBy, rising", before, x);
        x.hardest(0);
        same("hardest", before, x);
        x.untilRule(3, 3);
        same("untilRule", before, x);
        x.untilLinks(0, 0);
        same("untilLinks, whole", before, x);
        x.untilLinks(1, 1);
        same("untilLinks, cut", before, x);
        x.ahead(100, 2);
        same("ahead", before, x);
        x.storms(20, 1, 0);
        same("storms", before, x);
        x.print();
        x.status(0);
        same("print, status", before, x);
    }

    private static void same(String what, String before, ChiefCircles x) {
        Check.due(what + " leaves all as it is", before.equals(Picture.whole(x)));
    }
}

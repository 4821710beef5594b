import java.util.NoSuchElementException;

/** Promises 12 to 22: each sentence that names a boundary has a test of its own. */
public final class EdgesOfAnswersTest {
    private static final int[] ODD = {Integer.MIN_VALUE, -1, Integer.MAX_VALUE};

    public static void main(String[] args) {
        toldOfNoKind();
        toldWhenFull();
        toldOfJobsInParts();
        memberOfNone();
        memberOfNoKind();
        memberDown();
        memberElecting();
        unitsOfNone();
        unitsOfNoKind();
        jobOfNone();
        jobOfNoKind();
        jobLeastOfEach();
        jobGreatestOfEach();
        linkOfNone();
        linkOfOne();
        letterOfNone();
        letterOfNoKind();
        letterOfEachKind();
        letterOfTheLast();
        sentOfNoKind();
        sentOfEachKind();
        tallyOfNone();
        tallyOfNoKind();
        changeOfNone();
        changeOfNoKind();
        chiefsOfNone();
        chiefsOfEight();
        rankedOfNone();
        rankedBeyond();
        rankedOfWhoIsNotNormal();
        Check.end();
    }

    /** Promise 12: "0 MEMBERS .. 18 JOBS that are in none" */
    private static void toldOfNoKind() {
        ChiefCircles x = new ChiefCircles();
        Check.refuses("told(19)", IllegalArgumentException.class, () -> x.told(19));
        for (int what : ODD) {
            Check.refuses("told(" + what + ")", IllegalArgumentException.class, () -> x.told(what));
        }
        Check.due("the first", 2, x.told(0));
        Check.due("the last", 0, x.told(18));
        Check.due("refused", 4, x.status(1));
    }

    /** The same: what has a greatest number, at it. */
    private static void toldWhenFull() {
        ChiefCircles x = Check.made("members 8;jobs 6;every 30;wait 30;gap 30;delay 3;");
        int[] due = {8, 6, 30, 30, 30, 3};
        for (int what = 0; what < due.length; what++) {
            Check.due("told(" + what + ")", due[what], x.told(what));
        }
        Check.due("circles", 8, x.told(9));
        Check.due("sets", 1, x.told(10));
        Check.due("jobs in more than one part", 6, x.told(17));
        for (int i = 0; i < 8; i++) {
            x.cut(1 << i);
        }
        Check.due("sets", 8, x.told(10));
        Check.due("acts", 8, x.told(14));
        for (int k = 0; k < 10; k++) {
            x.feed(0, 0, 0, 0, 0);
        }
        Check.due("bytes", 200, x.told(15));
        for (int k = 0; k < 41; k++) {
            x.fall(0);
            x.rise(0);
        }
        Check.due("changes", 40, x.told(16));
        for (int i = 0; i < 8; i++) {
            x.fall(i);
        }
        Check.due("jobs in none", 6, x.told(18));
        Check.due("jobs in more than one part", 0, x.told(17));
        x.rise(7);
        Check.due("in just one", 0, x.told(17) + x.told(18));
    }

    /** "17 JOBS that are in more than one PART, 18 JOBS that are in none": in two, one, and none. */
    private static void toldOfJobsInParts() {
        ChiefCircles x = new ChiefCircles();
        Check.due("in two", 3, x.told(17));
        x.fall(0);
        Check.due("in one", 0, x.told(17));
        Check.due("in one", 0, x.told(18));
        x.fall(1);
        Check.due("in none", 3, x.told(18));
    }

    /** Promise 13: "NoSuchElementException", "ahead of others" */
    private static void memberOfNone() {
        ChiefCircles x = Check.made("members 8;");
        Check.refuses("member(8, 0)", NoSuchElementException.class, () -> x.member(8, 0));
        for (int none : ODD) {
            Check.refuses("member(" + none + ", 0)", NoSuchElementException.class, () -> x.member(none, 0));
            Check.refuses("member(" + none + ", 13)", NoSuchElementException.class, () -> x.member(none, 13));
        }
        Check.due("ahead of others", 0, x.status(1));
        Check.due("refused", 7, x.status(0));
    }

    /** The same: "0 RANK .. 12 HEARD" */
    private static void memberOfNoKind() {
        ChiefCircles x = Check.made("members 8;");
        Check.refuses("member(7, 13)", IllegalArgumentException.class, () -> x.member(7, 13));
        for (int what : ODD) {
            Check.refuses("member(7, " + what + ")", IllegalArgumentException.class, () -> x.member(7, what));
        }
        Check.due("the first", 1, x.member(7, 0));
        Check.due("the last", 0, x.member(7, 12));
        Check.due("refused", 4, x.status(1));
    }

    /** The same: "(0 of PHASE 0)", "(bits; 0: not NORMAL)", "(0: DOWN)", "(MEMBERS as bits; 0: not NORMAL)" */
    private static void memberDown() {
        ChiefCircles x = new ChiefCircles();
        x.ticks(21);
        x.fall(0);
        int[] due = {2, 2, 0, 2, 20, 3, 0, 0, 0, 0, 0, 0, 0};
        for (int what = 0; what < due.length; what++) {
            Check.due("member(0, " + what + ")", due[what], x.member(0, what));
        }
        x.ticks(50);
        Check.due("alarm", 0, x.member(0, 8));
    }

    /** The same of one that is ELECTING: it has a SET, but no PART and no CIRCLE. */
    private static void memberElecting() {
        ChiefCircles x = new ChiefCircles();
        x.ticks(14);
        int[] due = {2, 1, 0, 2, 20, 3, 0, 4, 6, 0, 3, 0, 0};
        for (int what = 0; what < due.length; what++) {
            Check.due("member(0, " + what + ")", due[what], x.member(0, what));
        }
    }

    /** Promise 14: "NoSuchElementException" of MEMBER and JOB, "ahead of others" */
    private static void unitsOfNone() {
        ChiefCircles x = Check.made("members 8;jobs 6;");
        Check.refuses("units(8, 0, 0)", NoSuchElementException.class, () -> x.units(8, 0, 0));
        Check.refuses("units(0, 6, 0)", NoSuchElementException.class, () -> x.units(0, 6, 0));
        for (int none : ODD) {
            Check.refuses("units(" + none + ", 0, 0)", NoSuchElementException.class, () -> x.units(none, 0, 0));
            Check.refuses("units(0, " + none + ", 0)", NoSuchElementException.class, () -> x.units(0, none, 0));
            Check.refuses("units(0, " + none + ", 2)", NoSuchElementException.class, () -> x.units(0, none, 2));
        }
        Check.due("ahead of others", 0, x.status(1));
        Check.due("the last", 0, x.units(7, 5, 1));
    }

    /** The same: "in LEDGER (what 0), WORK (1)" */
    private static void unitsOfNoKind() {
        ChiefCircles x = new ChiefCircles();
        Check.refuses("units(0, 0, 2)", IllegalArgumentException.class, () -> x.units(0, 0, 2));
        for (int what : ODD) {
            Check.refuses("units(0, 0, " + what + ")", IllegalArgumentException.class, () -> x.units(0, 0, what));
        }
        Check.due("refused", 4, x.status(1));
    }

    /** Promise 15: "NoSuchElementException", "ahead of others" */
    private static void jobOfNone() {
        ChiefCircles x = Check.made("members 2;jobs 6;");
        Check.refuses("job(6, 0)", NoSuchElementException.class, () -> x.job(6, 0));
        for (int none : ODD) {
            Check.refuses("job(" + none + ", 4)", NoSuchElementException.class, () -> x.job(none, 4));
        }
        Check.due("ahead of others", 0, x.status(1));
        Check.due("the last", 3, x.job(5, 3));
        Check.text(x, "members 2;jobs 1;");
        Check.refuses("one that was", NoSuchElementException.class, () -> x.job(1, 0));
    }

    /** The same: "0 all WORK together .. 3 MEMBERS that have it in their PART" */
    private static void jobOfNoKind() {
        ChiefCircles x = new ChiefCircles();
        Check.refuses("job(0, 4)", IllegalArgumentException.class, () -> x.job(0, 4));
        for (int what : ODD) {
            Check.refuses("job(0, " + what + ")", IllegalArgumentException.class, () -> x.job(0, what));
        }
        Check.due("refused", 4, x.status(1));
    }

    /** The same: "2 the least one", whoever has it. */
    private static void jobLeastOfEach() {
        for (int i = 0; i < 8; i++) {
            ChiefCircles x = Check.made("members 8;jobs 1;every 30;");
            x.ticks(2);
            x.fall(i);
            x.ticks(5);
            Check.due("the least is of " + i, 2, x.job(0, 2));
            Check.due("the greatest is not", 7, x.job(0, 1));
            Check.due("all together", 7 * 7 + 2, x.job(0, 0));
        }
        Check.due("none", 0, new ChiefCircles().job(0, 2));
    }

    /** The same: "1 the greatest LEDGER", whoever has it, DOWN or not. */
    private static void jobGreatestOfEach() {
        for (int i = 0; i < 8; i++) {
            ChiefCircles x = Check.made("members 8;jobs 6;every 30;");
            for (int j = 0; j < 8; j++) {
                if (j != i) {
                    x.fall(j);
                }
            }
            x.ticks(6);
            Check.due("the greatest is of " + i, 1, x.job(5, 1));
            Check.due("the least is not", 0, x.job(5, 2));
            Check.due("in its part alone", 1 << i, x.job(5, 3));
            x.fall(i);
            Check.due("the greatest is of " + i + " yet", 1, x.job(5, 1));
            Check.due("in no part", 0, x.job(5, 3));
        }
        Check.due("none", 0, new ChiefCircles().job(0, 1));
    }

    /** Promise 16: "NoSuchElementException", "ahead of others" */
    private static void linkOfNone() {
        ChiefCircles x = Check.made("members 8;");
        Check.refuses("link(8, 0)", NoSuchElementException.class, () -> x.link(8, 0) ? 1 : 0);
        Check.refuses("link(0, 8)", NoSuchElementException.class, () -> x.link(0, 8) ? 1 : 0);
        Check.refuses("link(8, 8)", NoSuchElementException.class, () -> x.link(8, 8) ? 1 : 0);
        for (int none : ODD) {
            Check.refuses("link", NoSuchElementException.class, () -> x.link(none, 0) ? 1 : 0);
            Check.refuses("link", NoSuchElementException.class, () -> x.link(0, none) ? 1 : 0);
            Check.refuses("link", NoSuchElementException.class, () -> x.link(none, none) ? 1 : 0);
        }
        Check.due("ahead of others", 0, x.status(1));
    }

    /** The same: "(IllegalArgumentException: they are one)" */
    private static void linkOfOne() {
        ChiefCircles x = Check.made("members 8;");
        for (int i = 0; i < 8; i++) {
            int one = i;
            Check.refuses("link of one", IllegalArgumentException.class, () -> x.link(one, one) ? 1 : 0);
        }
        Check.due("refused", 8, x.status(1));
    }

    /** Promise 17: "(NoSuchElementException, too: there are not so many)" */
    private static void letterOfNone() {
        ChiefCircles x = new ChiefCircles();
        Check.refuses("letter(0, 0) of none", NoSuchElementException.class, () -> x.letter(0, 0));
        x.ticks(8);
        Check.due("the last of two", 1, x.letter(1, 0));
        Check.refuses("letter(2, 0) of two", NoSuchElementException.class, () -> x.letter(2, 0));
        for (int none : ODD) {
            Check.refuses("letter(" + none + ", 0)", NoSuchElementException.class, () -> x.letter(none, 0));
            Check.refuses("letter(" + none + ", 7)", NoSuchElementException.class, () -> x.letter(none, 7));
        }
        Check.due("ahead of others", 0, x.status(1));
        x.ticks(2);
        Check.refuses("letter(0, 0) of none again", NoSuchElementException.class, () -> x.letter(0, 0));
    }

    /** The same: "0 from .. 6 UP of READY" */
    private static void letterOfNoKind() {
        ChiefCircles x = new ChiefCircles();
        x.ticks(8);
        Check.refuses("letter(1, 7)", IllegalArgumentException.class, () -> x.letter(1, 7));
        for (int what : ODD) {
            Check.refuses("letter(1, " + what + ")", IllegalArgumentException.class, () -> x.letter(1, what));
        }
        Check.due("refused", 4, x.status(1));
    }

    /** The same: "4 the GROUP that is told (NONE), 5 the MEMBER of INVITE (NONE), 6 UP of READY (NONE)" */
    private static void letterOfEachKind() {
        ChiefCircles x = new ChiefCircles();
        x.ticks(8);
        letter("ASK", x, 0, 0, 10, -1, -1);
        x.ticks(1);
        letter("CHIEF", x, 0, 1, -1, -1, -1);
        x.ticks(3);
        letter("INVITE", x, 0, 5, 20, 0, -1);
        x.ticks(1);
        letter("ACCEPT", x, 0, 6, 20, -1, -1);
        x.ticks(7);
        letter("READY", x, 0, 7, 20, -1, 3);
        x.ticks(9);
        letter("YES", x, 0, 3, 20, -1, -1);
        letter("THERE", x, 1, 2, 20, -1, -1);
        x.fall(0);
        x.rise(0);
        x.ticks(1);
        letter("NO", x, 0, 4, -1, -1, -1);
    }

    private static void letter(String name, ChiefCircles x, int k, int kind, int group, int member, int up) {
        Check.due(name, kind, x.letter(k, 2));
        Check.due(name + ": group", group, x.letter(k, 4));
        Check.due(name + ": member", member, x.letter(k, 5));
        Check.due(name + ": up", up, x.letter(k, 6));
    }

    /** The same: "as they were sent", to the last of many. */
    private static void letterOfTheLast() {
        ChiefCircles x = Check.made("members 8;every 1;");
        x.ticks(1);
        int k = 0;
        for (int from = 0; from < 8; from++) {
            for (int to = 0; to < 8; to++) {
                if (to != from) {
                    Check.due("from", from, x.letter(k, 0));
                    Check.due("to", to, x.letter(k, 1));
                    k++;
                }
            }
        }
        Check.refuses("letter(56, 0)", NoSuchElementException.class, () -> x.letter(56, 0));
    }

    /** Promise 18: "LETTERS of a KIND: sent so far (what 0), HANDLED (1)." */
    private static void sentOfNoKind() {
        ChiefCircles x = new ChiefCircles();
        Check.refuses("sent(8, 0)", IllegalArgumentException.class, () -> x.sent(8, 0));
        Check.refuses("sent(0, 2)", IllegalArgumentException.class, () -> x.sent(0, 2));
        for (int none : ODD) {
            Check.refuses("sent(" + none + ", 0)", IllegalArgumentException.class, () -> x.sent(none, 0));
            Check.refuses("sent(0, " + none + ")", IllegalArgumentException.class, () -> x.sent(0, none));
        }
        Check.due("refused", 8, x.status(1));
        Check.due("the last", 0, x.sent(7, 1));
    }

    /** The same: those that were LOST were sent, but not HANDLED. */
    private static void sentOfEachKind() {
        ChiefCircles x = new ChiefCircles();
        x.ticks(21);
        int[] due = {2, 2, 0, 0, 0, 1, 1, 1};
        for (int kind = 0; kind < 8; kind++) {
            Check.due("sent", due[kind], x.sent(kind, 0));
            Check.due("handled", due[kind], x.sent(kind, 1));
        }
        x.fall(0);
        x.ticks(9);
        Check.due("THERE is sent", 1, x.sent(2, 0));
        Check.due("but lost", 0, x.sent(2, 1));
    }

    /** Promise 19: "NoSuchElementException", "ahead of others" */
    private static void tallyOfNone() {
        ChiefCircles x = Check.made("members 8;");
        Check.refuses("tally(8, 0)", NoSuchElementException.class, () -> x.tally(8, 0));
        for (int none : ODD) {
            Check.refuses("tally(" + none + ", 7)", NoSuchElementException.class, () -> x.tally(none, 7));
        }
        Check.due("ahead of others", 0, x.status(1));
    }

    /** The same: "(0 to 6)" */
    private static void tallyOfNoKind() {
        ChiefCircles x = Check.made("members 8;");
        Check.refuses("tally(7, 7)", IllegalArgumentException.class, () -> x.tally(7, 7));
        for (int what : ODD) {
            Check.refuses("tally(7, " + what + ")", IllegalArgumentException.class, () -> x.tally(7, what));
        }
        Check.due("the last", 0, x.tally(7, 6));
        Check.due("refused", 4, x.status(1));
    }

    /** Promise 20: "(NoSuchElementException, too: there are not so many)" */
    private static void changeOfNone() {
        ChiefCircles x = new ChiefCircles();
        Check.refuses("change(0, 0) of none", NoSuchElementException.class, () -> x.change(0, 0));
        for (int k = 1; k <= 41; k++) {
            int told = Math.min(k, 40);
            x.fall(1);
            x.rise(1);
            Check.due("the last", 1, x.change(told - 1, 1));
            Check.refuses("one more", NoSuchElementException.class, () -> x.change(told, 0));
        }
        for (int none : ODD) {
            Check.refuses("change(" + none + ", 4)", NoSuchElementException.class, () -> x.change(none, 4));
        }
        Check.due("ahead of others", 0, x.status(1));
    }

    /** The same: "0 the CLOCK .. 3 GROUP then" */
    private static void changeOfNoKind() {
        ChiefCircles x = new ChiefCircles();
        x.fall(1);
        x.rise(1);
        Check.refuses("change(0, 4)", IllegalArgumentException.class, () -> x.change(0, 4));
        for (int what : ODD) {
            Check.refuses("change(0, " + what + ")", IllegalArgumentException.class, () -> x.change(0, what));
        }
        Check.due("refused", 4, x.status(1));
    }

    /** Promise 21: "MEMBERS that are CHIEF themselves and NORMAL": none. */
    private static void chiefsOfNone() {
        ChiefCircles x = new ChiefCircles();
        x.ticks(13);
        Check.due("chief itself, but electing", 0, x.chiefs());
        x.ticks(7);
        Check.due("and normal", 1, x.chiefs());
        x.fall(0);
        x.fall(1);
        Check.due("all are down", 0, x.chiefs());
    }

    /** The same: all, or the last one alone. */
    private static void chiefsOfEight() {
        ChiefCircles x = Check.made("members 8;");
        Check.due("all", 255, x.chiefs());
        for (int i = 0; i < 7; i++) {
            x.fall(i);
        }
        Check.due("the last", 128, x.chiefs());
        Check.text(x, "members 2;");
        Check.due("none that was", 3, x.chiefs());
    }

    /** Promise 22: "NoSuchElementException" */
    private static void rankedOfNone() {
        ChiefCircles x = Check.made("members 8;");
        Check.refuses("ranked(8, 0)", NoSuchElementException.class, () -> x.ranked(8, 0));
        for (int none : ODD) {
            Check.refuses("ranked(" + none + ", 0)", NoSuchElementException.class, () -> x.ranked(none, 0));
            Check.refuses("ranked(" + none + ", -1)", NoSuchElementException.class, () -> x.ranked(none, -1));
        }
        Check.due("refused", 7, x.status(0));
    }

    /** The same: "NONE: not so many, k is below 0" */
    private static void rankedBeyond() {
        ChiefCircles x = Check.made("members 8;every 4;wait 4;");
        x.ticks(17);
        for (int k = 0; k < 8; k++) {
            Check.due("by ranks", k, x.ranked(7, k));
        }
        Check.due("not so many", -1, x.ranked(7, 8));
        for (int none : ODD) {
            Check.due("ranked(7, " + none + ")", -1, x.ranked(7, none));
        }
        x.fall(7);
        Check.due("one fewer", -1, x.ranked(0, 7));
        Check.due("none is refused", 0, x.status(0) + x.status(1) + x.status(2));
    }

    /** The same: "it is not NORMAL" */
    private static void rankedOfWhoIsNotNormal() {
        ChiefCircles x = new ChiefCircles();
        x.ticks(13);
        Check.due("electing", -1, x.ranked(0, 0));
        x.fall(0);
        Check.due("down", -1, x.ranked(0, 0));
        x.rise(0);
        Check.due("normal", 0, x.ranked(0, 0));
    }
}

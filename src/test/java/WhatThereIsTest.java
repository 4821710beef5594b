import java.util.NoSuchElementException;

/** Promises 12 to 22: what there is. */
public final class WhatThereIsTest {
    public static void main(String[] args) {
        refusals();
        circlesAndSets();
        oneOfNone();
        soundness();
        twiceAndJobs();
        parts();
        lettersAndSent();
        tallies();
        changes();
        rankedMembers();
        Check.end();
    }

    private static void refusals() {
        ChiefCircles x = Check.made("members 3;jobs 2;every 1;");
        x.ticks(1);
        for (int what : new int[] {-1, 19, Integer.MIN_VALUE, Integer.MAX_VALUE}) {
            Check.refuses("told", IllegalArgumentException.class, () -> x.told(what));
            Check.refuses("member", IllegalArgumentException.class, () -> x.member(0, what));
            Check.refuses("units", IllegalArgumentException.class, () -> x.units(0, 0, what));
            Check.refuses("job", IllegalArgumentException.class, () -> x.job(0, what));
            Check.refuses("letter", IllegalArgumentException.class, () -> x.letter(0, what));
            Check.refuses("sent", IllegalArgumentException.class, () -> x.sent(0, what));
            Check.refuses("tally", IllegalArgumentException.class, () -> x.tally(0, what));
        }
        Check.refuses("member(0, 13)", IllegalArgumentException.class, () -> x.member(0, 13));
        Check.refuses("units(0, 0, 2)", IllegalArgumentException.class, () -> x.units(0, 0, 2));
        Check.refuses("job(0, 4)", IllegalArgumentException.class, () -> x.job(0, 4));
        Check.refuses("letter(0, 7)", IllegalArgumentException.class, () -> x.letter(0, 7));
        Check.refuses("sent(0, 2)", IllegalArgumentException.class, () -> x.sent(0, 2));
        Check.refuses("sent(-1, 0)", IllegalArgumentException.class, () -> x.sent(-1, 0));
        Check.refuses("sent(8, 0)", IllegalArgumentException.class, () -> x.sent(8, 0));
        Check.refuses("tally(0, 7)", IllegalArgumentException.class, () -> x.tally(0, 7));
        Check.refuses("link(1, 1)", IllegalArgumentException.class, () -> x.link(1, 1) ? 1 : 0);
        for (int none : new int[] {-1, 3, Integer.MIN_VALUE, Integer.MAX_VALUE}) {
            Check.refuses("member", NoSuchElementException.class, () -> x.member(none, -1));
            Check.refuses("units", NoSuchElementException.class, () -> x.units(none, 0, 5));
            Check.refuses("tally", NoSuchElementException.class, () -> x.tally(none, 9));
            Check.refuses("link", NoSuchElementException.class, () -> x.link(none, 0) ? 1 : 0);
            Check.refuses("link", NoSuchElementException.class, () -> x.link(0, none) ? 1 : 0);
            Check.refuses("link of one", NoSuchElementException.class, () -> x.link(none, none) ? 1 : 0);
            Check.refuses("ranked", NoSuchElementException.class, () -> x.ranked(none, 0));
        }
        for (int none : new int[] {-1, 2, Integer.MIN_VALUE, Integer.MAX_VALUE}) {
            Check.refuses("units", NoSuchElementException.class, () -> x.units(0, none, 5));
            Check.refuses("job", NoSuchElementException.class, () -> x.job(none, 5));
        }
        for (int none : new int[] {-1, 6, Integer.MIN_VALUE, Integer.MAX_VALUE}) {
            Check.refuses("letter", NoSuchElementException.class, () -> x.letter(none, 9));
        }
        for (int none : new int[] {-1, 0, Integer.MIN_VALUE, Integer.MAX_VALUE}) {
            Check.refuses("change", NoSuchElementException.class, () -> x.change(none, 9));
        }
        x.fall(0);
        x.rise(0);
        Check.due("a change", 1, x.told(16));
        Check.refuses("change(0, 4)", IllegalArgumentException.class, () -> x.change(0, 4));
        Check.refuses("change(0, -1)", IllegalArgumentException.class, () -> x.change(0, -1));
        Check.refuses("change(1, 0)", NoSuchElementException.class, () -> x.change(1, 0));
    }

    private static void circlesAndSets() {
        ChiefCircles x = Check.made("members 6;every 4;wait 4;");
        Check.due("circles", 6, x.told(9));
        Check.due("sets", 1, x.told(10));
        x.cut(0b000001);
        x.cut(0b000011);
        x.cut(0b001000);
        Check.due("0, 1, 3, and 2 with 4 and 5", 4, x.told(10));
        Check.due("set of 0", 0b000001, x.member(0, 10));
        Check.due("set of 4", 0b110100, x.member(4, 10));
        x.heal();
        x.cut(0b000001);
        x.fall(2);
        Check.due("sets without who is down", 2, x.told(10));
        Check.due("set of 5", 0b111010, x.member(5, 10));
        Check.due("set of 2", 0, x.member(2, 10));
        Check.due("circles without who is down", 5, x.told(9));

        ChiefCircles chain = Check.made("members 3;every 4;wait 4;");
        chain.cut(1);
        chain.heal();
        chain.ticks(17);
        Check.due("one", 1, chain.told(11));
        Check.due("circle", 7, chain.member(1, 11));
        Check.due("circles", 1, chain.told(9));
        chain.fall(1);
        Check.due("circle of the rest", 5, chain.member(0, 11));
        Check.due("circle of who is down", 0, chain.member(1, 11));
        Check.due("up still has it", 7, chain.member(0, 5));
        Check.due("so not one", 0, chain.told(11));
    }

    private static void oneOfNone() {
        ChiefCircles x = new ChiefCircles();
        Check.due("each alone, but linked", 0, x.told(11));
        x.cut(2);
        Check.due("each alone, and cut off", 1, x.told(11));
        x.heal();
        x.fall(0);
        Check.due("one left", 1, x.told(11));
        x.fall(1);
        Check.due("none left", 1, x.told(11));
        Check.due("no circle", 0, x.told(9));
        Check.due("no set", 0, x.told(10));
        Check.due("sound", 1, x.told(12));
        Check.due("no chief", 0, x.chiefs());
        Check.due("jobs in no part", 3, x.told(18));
        Check.due("until", 0, x.until());
        Check.due("hardest", -1, x.hardest(0));
        Check.due("hardest", -1, x.hardest(1));
        Check.due("chief of most", -1, x.ahead(1, 4));
    }

    private static void soundness() {
        ChiefCircles x = new ChiefCircles();
        Check.due("sound", 1, x.told(12));
        x.ticks(20);
        Check.due("sound, half merged", 1, x.told(12));
        x.ticks(1);
        Check.due("sound", 1, x.told(12));
    }

    private static void twiceAndJobs() {
        ChiefCircles x = new ChiefCircles();
        x.ticks(1);
        Check.due("both did a unit of 0", 1, x.told(13));
        Check.due("work", 2, x.job(0, 0));
        Check.due("greatest", 1, x.job(0, 1));
        Check.due("least", 1, x.job(0, 2));
        Check.due("none of 1", 0, x.job(1, 0) + x.job(1, 1) + x.job(1, 2));
        x.fall(1);
        x.ticks(1);
        Check.due("one goes on", 1, x.job(1, 1));
        Check.due("the other's ledger counts, too", 0, x.job(1, 2));
        Check.due("twice", 1, x.told(13));
        Check.due("parts of the one", 1, x.job(0, 3));
        x.rise(1);
        x.ticks(1);
        Check.due("twice", 2, x.told(13));
        x.fall(0);
        Check.due("greatest of who is down", 1, x.job(2, 1));
        Check.due("ledger", 1, x.units(0, 2, 0));
        Check.due("work", 1, x.units(0, 2, 1));

        ChiefCircles y = new ChiefCircles();
        y.ticks(21);
        Check.due("learned, not done", 5, y.units(0, 2, 0));
        Check.due("done", 4, y.units(0, 2, 1));
    }

    private static void parts() {
        ChiefCircles x = Check.made("members 2;jobs 5;");
        Check.due("all twice", 5, x.told(17));
        Check.due("in none", 0, x.told(18));
        Check.due("both", 3, x.job(4, 3));
        x.ticks(12);
        Check.due("who elects has none", 0, x.member(0, 9));
        Check.due("by one", 0, x.told(17));
        Check.due("part of 1", 31, x.member(1, 9));
        x.ticks(1);
        Check.due("all elect", 5, x.told(18));
        x.ticks(7);
        Check.due("0, 2, 4 alone", 2, x.told(18));
        Check.due("0", 1, x.job(2, 3));
        Check.due("none", 0, x.job(1, 3));
        x.ticks(1);
        Check.due("all dealt", 0, x.told(18) + x.told(17));
        Check.due("1", 2, x.job(3, 3));
    }

    private static void lettersAndSent() {
        ChiefCircles x = Check.made("members 3;every 4;wait 4;");
        x.ticks(4);
        int[][] due = {{0, 1}, {0, 2}, {1, 0}, {1, 2}, {2, 0}, {2, 1}};
        for (int k = 0; k < 6; k++) {
            Check.due("from", due[k][0], x.letter(k, 0));
            Check.due("to", due[k][1], x.letter(k, 1));
        }
        Check.due("under way", 6, x.told(7));
        Check.due("sent", 6, x.sent(0, 0));
        Check.due("handled", 0, x.sent(0, 1));
        x.fall(2);
        x.cut(1);
        Check.due("that from who fell behind its sending comes", 1, x.ticks(1));
        Check.due("handled", 1, x.sent(0, 1));
        Check.due("lost", 5, x.told(8));
        x.undo();
        x.undo();
        x.undo();
        Check.due("all come", 6, x.ticks(1));
        Check.due("none lost", 0, x.told(8));
        x.ticks(30);
        int sum = 0;
        int handled = 0;
        for (int kind = 0; kind < 8; kind++) {
            sum += x.sent(kind, 0);
            handled += x.sent(kind, 1);
        }
        Check.due("each is under way, lost or handled", sum, x.told(7) + x.told(8) + handled);
        Check.due("invites", 2, x.sent(5, 1));
        Check.due("accepts", 2, x.sent(6, 1));
        Check.due("readies", 2, x.sent(7, 1));
    }

    private static void tallies() {
        ChiefCircles x = new ChiefCircles();
        x.ticks(21);
        int[] chief = {13, 8, 0, 1, 1, 0, 0};
        int[] other = {13, 8, 0, 1, 0, 1, 1};
        for (int what = 0; what < 7; what++) {
            Check.due("tally(0, " + what + ")", chief[what], x.tally(0, what));
            Check.due("tally(1, " + what + ")", other[what], x.tally(1, what));
        }
        x.fall(1);
        x.ticks(5);
        Check.due("down", 5, x.tally(1, 2));
        Check.due("not normal", 13, x.tally(1, 0));
        Check.due("normal", 18, x.tally(0, 0));
        x.rise(1);
        Check.due("alone", 2, x.tally(1, 3));
    }

    private static void changes() {
        ChiefCircles x = new ChiefCircles();
        Check.due("not at first", 0, x.told(16));
        x.cut(1);
        for (int k = 1; k <= 45; k++) {
            x.fall(1);
            Check.due("falling changes no group", Math.min(k - 1, 40), x.told(16));
            x.rise(1);
            x.ticks(1);
            Check.due("told", Math.min(k, 40), x.told(16));
            if (k == 40) {
                Check.due("the eldest", 0, x.change(0, 0));
            }
        }
        for (int k = 0; k < 40; k++) {
            Check.due("clock", 5 + k, x.change(k, 0));
            Check.due("member", 1, x.change(k, 1));
            Check.due("ahead", 10 * (6 + k) + 1, x.change(k, 2));
            Check.due("then", 10 * (7 + k) + 1, x.change(k, 3));
        }
        Check.refuses("change(40, 0)", NoSuchElementException.class, () -> x.change(40, 0));
        x.undo();
        x.undo();
        Check.due("taken back, the eldest is there again", 4, x.change(0, 0));
    }

    private static void rankedMembers() {
        ChiefCircles x = Check.made("members 4;ranks 5 99 0 7;every 4;wait 4;gap 5;");
        Check.due("alone", 2, x.ranked(2, 0));
        Check.due("alone", -1, x.ranked(2, 1));
        Check.due("chiefs", 15, x.chiefs());
        x.ticks(17);
        Check.due("one", 1, x.told(11));
        int[] due = {1, 3, 0, 2};
        for (int k = 0; k < 4; k++) {
            Check.due("ranked", due[k], x.ranked(2, k));
            Check.due("ranked", due[k], x.ranked(1, k));
        }
        Check.due("not so many", -1, x.ranked(0, 4));
        Check.due("below", -1, x.ranked(0, -1));
        Check.due("far", -1, x.ranked(0, Integer.MAX_VALUE));
        Check.due("far below", -1, x.ranked(0, Integer.MIN_VALUE));
        Check.due("chief", 2, x.chiefs());
        x.fall(3);
        Check.due("without who is down", 0, x.ranked(2, 1));
        Check.due("who is down", -1, x.ranked(3, 0));
        x.fall(1);
        Check.due("no chief", 0, x.chiefs());
    }
}

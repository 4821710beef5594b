import java.util.NoSuchElementException;

/** Promises 5 to 11: the acts, and how they are taken back. */
public final class ActsTest {
    public static void main(String[] args) {
        ticks();
        cutAndHeal();
        fallAndRise();
        rules();
        undo();
        Check.end();
    }

    private static void ticks() {
        ChiefCircles x = new ChiefCircles();
        for (int n : new int[] {0, -1, 101, Integer.MIN_VALUE, Integer.MAX_VALUE}) {
            Check.refuses("ticks(" + n + ")", IllegalArgumentException.class, () -> x.ticks(n));
        }
        Check.due("nothing is kept", 0, x.told(14));
        Check.due("ticks(1)", 0, x.ticks(1));
        Check.due("two ASK come at 9", 2, x.ticks(8));
        Check.due("two CHIEF come at 10", 2, x.ticks(1));
        Check.due("none at 11, 12", 0, x.ticks(2));
        Check.due("INVITE, ACCEPT, READY", 3, x.ticks(9));
        Check.due("clock", 21, x.told(6));
        x.ticks(100);
        Check.due("clock", 121, x.told(6));
    }

    private static void cutAndHeal() {
        ChiefCircles x = Check.made("members 5;");
        for (int set : new int[] {32, -1, 64, Integer.MIN_VALUE, 31 | 1 << 30}) {
            Check.refuses("cut(" + set + ")", IllegalArgumentException.class, () -> x.cut(set));
        }
        Check.due("cut of none", 0, x.cut(0));
        Check.due("cut of all", 0, x.cut(31));
        Check.due("two from three", 6, x.cut(3));
        Check.due("four links, two of which were cut", 2, x.cut(4));
        Check.due("within", x.link(0, 1));
        Check.due("between", 0, x.link(1, 2) ? 1 : 0);
        Check.due("between, the other way", 0, x.link(2, 1) ? 1 : 0);
        Check.due("within the others", x.link(3, 4));
        Check.due("one of the others off", 0, x.link(2, 3) ? 1 : 0);
        Check.due("sets", 3, x.told(10));
        Check.due("heal", 8, x.heal());
        Check.due("heal again", 0, x.heal());
        Check.due("sets", 1, x.told(10));
        for (int a = 0; a < 5; a++) {
            for (int b = 0; b < 5; b++) {
                Check.due("whole", a == b || x.link(a, b));
            }
        }
        Check.due("all were acts", 6, x.told(14));
    }

    private static void fallAndRise() {
        ChiefCircles x = Check.made("members 3;every 2;wait 3;");
        for (int i : new int[] {-1, 3, Integer.MAX_VALUE}) {
            Check.refuses("fall(" + i + ")", NoSuchElementException.class, () -> x.fall(i));
            Check.refuses("rise(" + i + ")", NoSuchElementException.class, () -> x.rise(i));
        }
        Check.refuses("rise", IllegalStateException.class, () -> x.rise(1));
        x.ticks(2);
        Check.due("two ASK to it", 2, x.fall(1));
        Check.refuses("fall", IllegalStateException.class, () -> x.fall(1));
        Check.due("acts", 2, x.told(14));
        int[] of = {2, 2, 1, 1, 11, 2, 0, 0, 0, 0, 0, 0, 0};
        for (int what = 0; what < of.length; what++) {
            Check.due("member(1, " + what + ")", of[what], x.member(1, what));
        }
        Check.due("its ledger stays", 1, x.units(1, 1, 0));
        Check.due("others go on", 4, x.ticks(1));
        Check.due("its letters are lost", 2, x.told(8));
        Check.due("it does no unit", 2, x.units(1, 0, 0) + x.units(1, 1, 0));
        Check.due("down", 1, x.tally(1, 2));
        Check.due("a CHIEF to it from 0 and 2", 2, x.told(7) - 2);
        Check.due("rise", 21, x.rise(1));
        int[] then = {2, 0, 1, 2, 21, 2, 0, 1, 2, 7, 7, 2, 0};
        for (int what = 0; what < then.length; what++) {
            Check.due("risen member(1, " + what + ")", then[what], x.member(1, what));
        }
        Check.due("work stays", 1, x.units(1, 0, 1));
        Check.due("went alone", 2, x.tally(1, 3));
        Check.due("a letter reaches who rose in time", 4, x.ticks(1));
    }

    private static void rules() {
        ChiefCircles x = new ChiefCircles();
        int[] least = {1, 1, 0, 1};
        int[] most = {30, 30, 30, 3};
        int[] plain = {8, 4, 3, 1};
        for (int what = 0; what < 4; what++) {
            int w = what;
            Check.refuses("below", IllegalArgumentException.class, () -> x.rule(w, least[w] - 1));
            Check.refuses("above", IllegalArgumentException.class, () -> x.rule(w, most[w] + 1));
            Check.due("rule", plain[w], x.rule(w, least[w]));
            Check.due("rule", least[w], x.rule(w, most[w]));
            Check.due("told", most[w], x.told(2 + w));
        }
        Check.refuses("rule(-1, 1)", IllegalArgumentException.class, () -> x.rule(-1, 1));
        Check.refuses("rule(4, 1)", IllegalArgumentException.class, () -> x.rule(4, 1));
        Check.due("the alarm that is set stays", 8, x.member(0, 8));
        x.ticks(8);
        Check.due("WAIT from now on", 30, x.member(0, 8));
        Check.due("DELAY from now on", 3, x.letter(0, 3));
        x.rule(3, 1);
        Check.due("what is under way stays", 3, x.letter(0, 3));
    }

    private static void undo() {
        ChiefCircles x = Check.made("members 4;every 3;wait 3;");
        Check.due("undo", -1, x.undo());
        for (int k = 0; k < 12; k++) {
            x.ticks(1);
        }
        Check.due("eight can be taken back", 8, x.told(14));
        for (int k = 7; k >= 0; k--) {
            Check.due("undo", k, x.undo());
            Check.due("clock", 4 + k, x.told(6));
        }
        Check.due("undo", -1, x.undo());
        takenBackOneByOne(Check.made("members 4;ranks 9 3 7 5;every 3;wait 3;"));
        refusalsAndTapeStay(x);
    }

    private static void takenBackOneByOne(ChiefCircles x) {
        x.ticks(30);
        Check.text(x, "members 4;ranks 9 3 7 5;every 3;wait 3;");
        x.cut(6);
        x.heal();
        x.ticks(17);
        x.fall(1);
        x.rise(1);
        x.ticks(6);
        String before = Picture.of(x);
        x.ticks(30);
        x.cut(5);
        x.fall(3);
        x.heal();
        x.rise(3);
        x.rule(1, 30);
        x.undo();
        Check.due("rule taken back", 3, x.told(3));
        x.undo();
        Check.due("rise taken back", 2, x.member(3, 1));
        x.undo();
        Check.due("heal taken back", 0, x.link(0, 1) ? 1 : 0);
        x.undo();
        Check.due("fall taken back", 0, x.member(3, 1));
        x.undo();
        Check.due("cut taken back", x.link(0, 1));
        Check.due("those ahead are left", 2, x.undo());
        Check.due("all as ahead", before.equals(Picture.of(x)));
        x.ticks(30);
        String then = Picture.of(x);
        x.undo();
        x.ticks(30);
        Check.due("the same again", then.equals(Picture.of(x)));
    }

    private static void refusalsAndTapeStay(ChiefCircles x) {
        x.heal();
        Check.refuses("fall(9)", NoSuchElementException.class, () -> x.fall(9));
        x.feed(1, 2, 3, 4, 5);
        x.undo();
        Check.due("refusals stay", 1, x.status(0));
        Check.due("the tape is no part of an act", 20, x.told(15));
    }
}

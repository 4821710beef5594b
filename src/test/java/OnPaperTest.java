import java.util.NoSuchElementException;

/** Promises 23 to 31: on paper, and the refusals. */
public final class OnPaperTest {
    public static void main(String[] args) {
        refusals();
        untilItIsOne();
        untilWere();
        hardest();
        ahead();
        stormsByHand();
        stormsOfMany();
        print();
        nothingStaysChanged();
        status();
        Check.end();
    }

    private static void refusals() {
        ChiefCircles x = Check.made("members 3;");
        for (int none : new int[] {-1, 3, Integer.MIN_VALUE, Integer.MAX_VALUE}) {
            Check.refuses("untilBy", NoSuchElementException.class, () -> x.untilBy(none));
            Check.refuses("hardest", IllegalArgumentException.class, () -> x.hardest(none));
            Check.refuses("untilLinks", IllegalArgumentException.class, () -> x.untilLinks(none, 0));
            Check.refuses("storms", IllegalArgumentException.class, () -> x.storms(1, 1, none));
        }
        Check.refuses("hardest(2)", IllegalArgumentException.class, () -> x.hardest(2));
        Check.refuses("untilLinks(2, 0)", IllegalArgumentException.class, () -> x.untilLinks(2, 0));
        for (int set : new int[] {-1, 8, Integer.MIN_VALUE}) {
            Check.refuses("untilLinks", IllegalArgumentException.class, () -> x.untilLinks(1, set));
            Check.due("any set of 0", x.until(), x.untilLinks(0, set));
        }
        int[] least = {1, 1, 0, 1};
        int[] most = {30, 30, 30, 3};
        for (int what = 0; what < 4; what++) {
            int w = what;
            Check.refuses("untilRule", IllegalArgumentException.class, () -> x.untilRule(w, least[w] - 1));
            Check.refuses("untilRule", IllegalArgumentException.class, () -> x.untilRule(w, most[w] + 1));
            x.untilRule(w, least[w]);
            x.untilRule(w, most[w]);
        }
        Check.refuses("untilRule(-1, 1)", IllegalArgumentException.class, () -> x.untilRule(-1, 1));
        Check.refuses("untilRule(4, 1)", IllegalArgumentException.class, () -> x.untilRule(4, 1));
        for (int n : new int[] {0, -1, 101, Integer.MIN_VALUE}) {
            Check.refuses("ahead", IllegalArgumentException.class, () -> x.ahead(n, 0));
        }
        Check.refuses("ahead(1, -1)", IllegalArgumentException.class, () -> x.ahead(1, -1));
        Check.refuses("ahead(1, 5)", IllegalArgumentException.class, () -> x.ahead(1, 5));
        for (int n : new int[] {0, -1, 21, Integer.MIN_VALUE}) {
            Check.refuses("storms", IllegalArgumentException.class, () -> x.storms(n, 1, 0));
        }
        Check.due("refused so far", 4, x.status(0));
        Check.due("refused so far", 12 + 2 + 3 + 8 + 2 + 4 + 2 + 4, x.status(1));
        Check.due("refused so far", 0, x.status(2));
    }

    private static void untilItIsOne() {
        ChiefCircles x = new ChiefCircles();
        for (int time = 21; time >= 0; time--) {
            Check.due("until", time, x.until());
            x.ticks(1);
        }
        Check.due("it is", 0, x.until());
        ChiefCircles far = Check.made("members 2;every 30;wait 30;gap 30;");
        far.rule(1, 29);
        Check.due("30 + 3 times 29 + 1", 118, far.until());
        Check.due("the last of 300", 300, Check.made("members 2;every 30;wait 23;gap 1;delay 3;").until());
        ChiefCircles later = Check.made("members 2;every 30;wait 24;gap 1;delay 3;");
        later.ticks(8);
        Check.due("one later", -1, later.until());
        Check.due("one later", -1, later.untilRule(0, 30));
        later.ticks(1);
        Check.due("the last of 300", 300, later.until());
        Check.due("no answer in time", -1, Check.made("members 2;wait 1;").until());
    }

    private static void untilWere() {
        ChiefCircles x = new ChiefCircles();
        Check.due("EVERY: the alarms are set already", 21, x.untilRule(0, 1));
        Check.due("WAIT", 8 + 8 + 16 + 1, x.untilRule(1, 8));
        Check.due("GAP of none", -1, x.untilRule(2, 0));
        Check.due("DELAY", 22, x.untilRule(3, 2));
        Check.due("the other alone is one", 0, x.untilBy(0));
        Check.due("cut between them", 0, x.untilLinks(1, 1));
        Check.due("cut between none", 21, x.untilLinks(1, 0));
        x.ticks(21);
        x.fall(1);
        Check.due("0 merges into itself, 28 and 3 times 4", 19, x.until());
        Check.due("1 rises: found, and merged with", 20, x.untilBy(1));
        x.undo();
        x.cut(1);
        Check.due("cut", 19, x.until());
        Check.due("were they whole", 0, x.untilLinks(0, 0));
        ChiefCircles y = Check.made("members 3;");
        y.cut(1);
        int joined = y.until();
        Check.due("cut besides", 0, y.untilLinks(1, 2));
        Check.due("the same cut once more", joined, y.untilLinks(1, 1));
    }

    private static void hardest() {
        ChiefCircles x = new ChiefCircles();
        Check.due("alike, the first", 0, x.hardest(0));
        Check.due("no time", 0, x.hardest(1));
        x.ticks(21);
        Check.due("the chief's fall", 12, x.untilBy(0));
        Check.due("the other's fall", 19, x.untilBy(1));
        Check.due("hardest", 1, x.hardest(0));
        Check.due("hardest", 19, x.hardest(1));
        x.fall(1);
        Check.due("of those that stand", 0, x.hardest(0));
        Check.due("none is left then", 0, x.hardest(1));
        ChiefCircles y = Check.made("members 3;gap 0;");
        Check.due("none at all is more than any", 0, y.hardest(0));
        Check.due("none at all", -1, y.hardest(1));
        y.cut(1);
        Check.due("by 0 nothing gets better", -1, y.untilBy(0));
        Check.due("by 1 each is alone", 0, y.untilBy(1));
        Check.due("hardest", 0, y.hardest(0));
        y.undo();
        y.cut(4);
        Check.due("by 2", 2, y.hardest(0));
        Check.due("by 2", -1, y.hardest(1));
    }

    private static void ahead() {
        ChiefCircles x = new ChiefCircles();
        Check.due("circles", 2, x.ahead(11, 0));
        Check.due("one is electing", 1, x.ahead(12, 0));
        Check.due("both are", 0, x.ahead(13, 0));
        Check.due("twice", 11, x.ahead(21, 1));
        Check.due("handled", 2, x.ahead(9, 3));
        Check.due("handled", 7, x.ahead(21, 3));
        Check.due("chief of alike ones", 0, x.ahead(1, 4));
        Check.due("chief", 1, x.ahead(12, 4));
        Check.due("none is normal", -1, x.ahead(13, 4));
        Check.due("chief", 0, x.ahead(21, 4));
        x.ticks(8);
        x.cut(1);
        x.ticks(1);
        Check.due("lost so far", 2, x.told(8));
        Check.due("lost, those already lost with them", 2, x.ahead(1, 2));
        Check.due("none handled in these", 0, x.ahead(10, 3));
        ChiefCircles y = Check.made("members 3;ranks 1 2 3;every 4;wait 4;gap 5;");
        y.ticks(17);
        Check.due("of most", 2, y.ahead(1, 4));
        y.fall(0);
        y.rise(0);
        Check.due("of most, not the least", 2, y.ahead(1, 4));
    }

    /** The same as the document says, by acts of the face itself. */
    static int storm(String text, int before, int seed) {
        ChiefCircles x = Check.made(text);
        if (before > 0) {
            x.ticks(before);
        }
        int n = x.told(0);
        long[] seeds = {seed};
        for (int k = 0; k < 8; k++) {
            int blow = draw(seeds, 4);
            if (blow == 0) {
                int i = draw(seeds, n);
                if (x.member(i, 1) == 2) {
                    x.rise(i);
                } else {
                    x.fall(i);
                }
            } else if (blow == 1) {
                x.cut(draw(seeds, 1 << n));
            } else {
                x.heal();
            }
            x.ticks(draw(seeds, 12) + 1);
        }
        x.heal();
        for (int i = 0; i < n; i++) {
            if (x.member(i, 1) == 2) {
                x.rise(i);
            }
        }
        return x.until();
    }

    private static int draw(long[] x, int m) {
        x[0] = x[0] * 1103515245 + 12345 & 0xffffffffL;
        return (int) ((x[0] >>> 16) % m);
    }

    private static void stormsByHand() {
        String[] texts = {"members 2;", "members 5;every 5;wait 3;delay 2;", "members 8;jobs 6;", "members 3;gap 0;"};
        for (String text : texts) {
            for (int before : new int[] {0, 35}) {
                for (int seed : new int[] {0, 1, -1, 77777, Integer.MAX_VALUE, Integer.MIN_VALUE}) {
                    ChiefCircles x = Check.made(text);
                    if (before > 0) {
                        x.ticks(before);
                    }
                    int time = storm(text, before, seed);
                    Check.due("ended", time == -1 ? 0 : 1, x.storms(1, seed, 0));
                    Check.due("greatest", Math.max(time, 0), x.storms(1, seed, 1));
                    Check.due("sum", Math.max(time, 0), x.storms(1, seed, 2));
                }
            }
        }
    }

    private static void stormsOfMany() {
        String text = "members 4;every 5;wait 3;gap 1;";
        for (int seed : new int[] {5, Integer.MAX_VALUE - 3}) {
            int[] due = new int[3];
            for (int k = 0; k < 20; k++) {
                int time = storm(text, 0, seed + k);
                due[0] += time == -1 ? 0 : 1;
                due[1] = Math.max(due[1], time);
                due[2] += Math.max(time, 0);
            }
            ChiefCircles x = Check.made(text);
            for (int what = 0; what < 3; what++) {
                Check.due("storms of 20, " + what, due[what], x.storms(20, seed, what));
            }
        }
        ChiefCircles never = Check.made("members 2;gap 0;wait 1;");
        Check.due("none ended", 0, never.storms(3, 1, 0));
        Check.due("greatest of none", 0, never.storms(3, 1, 1));
        Check.due("sum of none", 0, never.storms(3, 1, 2));
    }

    private static void print() {
        ChiefCircles x = new ChiefCircles();
        Check.due("print", ((10L * 31 + 1) * 31 + 1) * 29791 + (11 * 31 + 2) * 31 + 1, x.print());
        x.fall(0);
        Check.due("who is down keeps group and up", ((10L * 31 + 1) * 31) * 29791 + (11 * 31 + 2) * 31 + 1, x.print());
        ChiefCircles y = Check.made("members 8;");
        long due = 0;
        for (int i = 0; i < 8; i++) {
            due = due * 31 + 10 + i;
            due = due * 31 + (1 << i);
            due = due * 31 + 1;
        }
        Check.due("it goes round", due, y.print());
    }

    private static void nothingStaysChanged() {
        ChiefCircles x = Check.made("members 5;every 3;wait 3;");
        x.ticks(20);
        x.cut(3);
        x.fall(4);
        x.ticks(5);
        ChiefCircles y = Check.made("members 5;every 3;wait 3;");
        y.ticks(20);
        y.cut(3);
        y.fall(4);
        y.ticks(5);
        x.until();
        x.untilBy(0);
        x.untilBy(4);
        x.hardest(0);
        x.untilRule(3, 3);
        x.untilLinks(0, 0);
        x.untilLinks(1, 5);
        x.ahead(100, 0);
        x.storms(20, 3, 2);
        for (int round = 0; round < 2; round++) {
            for (int what = 0; what <= 18; what++) {
                Check.due("told(" + what + ")", y.told(what), x.told(what));
            }
            for (int k = 0; k < y.told(16); k++) {
                Check.due("change", y.change(k, 3), x.change(k, 3));
            }
            for (int i = 0; i < 5; i++) {
                for (int what = 0; what < 7; what++) {
                    Check.due("tally", y.tally(i, what), x.tally(i, what));
                }
            }
            Check.due("print", y.print(), x.print());
            Check.due("ticks", y.ticks(7), x.ticks(7));
        }
    }

    private static void status() {
        ChiefCircles x = new ChiefCircles();
        Check.refuses("member", NoSuchElementException.class, () -> x.member(2, 99));
        Check.due("one reason for each", 1, x.status(0));
        Check.due("one reason for each", 0, x.status(1));
        Check.refuses("told", IllegalArgumentException.class, () -> x.told(99));
        Check.refuses("rise", IllegalStateException.class, () -> x.rise(0));
        Check.refuses("rise", IllegalStateException.class, () -> x.rise(1));
        Check.due("NoSuchElementException", 1, x.status(0));
        Check.due("IllegalArgumentException", 1, x.status(1));
        Check.due("IllegalStateException", 2, x.status(2));
        for (int what : new int[] {-1, 3, Integer.MIN_VALUE, Integer.MAX_VALUE}) {
            Check.due("others", -1, x.status(what));
        }
        x.heal();
        x.undo();
        Check.text(x, "members 3;");
        x.feed(1, 2, 3, 4, 5);
        Check.due("none is forgotten", 4, x.status(0) + x.status(1) + x.status(2));
    }
}

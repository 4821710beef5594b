import java.util.NoSuchElementException;

/** Promises 23 to 31: each sentence that names a boundary has a test of its own. */
public final class EdgesOnPaperTest {
    private static final int[] ODD = {Integer.MIN_VALUE, -1, Integer.MAX_VALUE};
    private static final int[] LEAST = {1, 1, 0, 1};
    private static final int[] GREATEST = {30, 30, 30, 3};

    public static void main(String[] args) {
        until();
        were();
        aheadAndStorms();
        printGoesRound();
        printOfNothingBut();
        statusOfEach();
        statusOfOthers();
        refusedChangesNothing();
        Check.end();
    }

    private static void until() {
        untilAtOnce();
        until300();
        untilNotSoSoon();
        untilOfNone();
        untilByNone();
        untilByFallOrRise();
        untilByTheLast();
        hardestOfNoKind();
        hardestOfNone();
        hardestOfOne();
        hardestOfAlikeOnes();
        hardestWithoutEnd();
        hardestOfThoseThatStand();
    }

    private static void were() {
        untilRuleBounds();
        untilRuleOfNoKind();
        untilRuleOfTheSame();
        untilLinksOfNoKind();
        untilLinksOfNoSet();
        untilLinksWholeOfAny();
        untilLinksOfNoneOrAll();
        untilLinksBesides();
    }

    private static void aheadAndStorms() {
        aheadOneToHundred();
        aheadOfNoKind();
        aheadLost();
        aheadHandledInThese();
        aheadChiefOfAlikeOnes();
        aheadChiefOfNone();
        stormsOneToTwenty();
        stormsOfNoKind();
        stormsSeedsGoRound();
        stormsDrawsGoRound();
        stormsWithoutAny();
        stormsOfThoseDown();
        stormsGreatestAndSum();
    }

    /** "(0 to 300)": 0, as all is ONE now. */
    private static void untilAtOnce() {
        ChiefCircles x = new ChiefCircles();
        x.ticks(20);
        Check.due("one tick ahead", 1, x.until());
        x.ticks(1);
        Check.due("now", 0, x.until());
        x.ticks(60);
        Check.due("it stays", 0, x.until());
    }

    /** The same: 300. */
    private static void until300() {
        Check.due("the last", 300, Check.made("members 2;every 30;wait 23;gap 1;delay 3;").until());
        ChiefCircles x = Check.made("members 2;every 30;wait 24;gap 1;delay 3;");
        x.ticks(9);
        Check.due("the last", 300, x.until());
    }

    /** "NONE: not so soon." */
    private static void untilNotSoSoon() {
        ChiefCircles x = Check.made("members 2;every 30;wait 24;gap 1;delay 3;");
        x.ticks(8);
        Check.due("301 were one too many", -1, x.until());
        Check.due("never", -1, Check.made("members 2;gap 0;").until());
    }

    /** The same: all are DOWN, so there is none that is not ONE. */
    private static void untilOfNone() {
        ChiefCircles x = Check.made("members 3;");
        for (int i = 0; i < 3; i++) {
            x.fall(i);
        }
        Check.due("none", 0, x.until());
        x.rise(1);
        Check.due("one alone", 0, x.until());
    }

    /** Promise 24: "NoSuchElementException" */
    private static void untilByNone() {
        ChiefCircles x = Check.made("members 8;");
        Check.refuses("untilBy(8)", NoSuchElementException.class, () -> x.untilBy(8));
        for (int none : ODD) {
            Check.refuses("untilBy(" + none + ")", NoSuchElementException.class, () -> x.untilBy(none));
        }
        Check.due("refused", 4, x.status(0));
        Check.due("the last", x.until(), x.untilBy(7));
    }

    /** "were a MEMBER to fall now (if it is not DOWN), or to rise (if it is)" */
    private static void untilByFallOrRise() {
        ChiefCircles x = Check.made("members 3;every 4;wait 4;");
        x.ticks(30);
        for (int i = 0; i < 3; i++) {
            x.fall(i);
            int fallen = x.until();
            x.ticks(3);
            x.rise(i);
            int risen = x.until();
            x.undo();
            Check.due("as it rises", risen, x.untilBy(i));
            x.undo();
            x.undo();
            Check.due("as it falls", fallen, x.untilBy(i));
        }
        x.ticks(10);
        x.fall(0);
        x.ticks(1);
        Check.due("electing ones fall, too", 0, fallOfTheRest(x));
    }

    private static int fallOfTheRest(ChiefCircles x) {
        x.fall(1);
        return x.untilBy(2);
    }

    /** The same: then none is left, or one alone. */
    private static void untilByTheLast() {
        ChiefCircles x = new ChiefCircles();
        x.fall(0);
        Check.due("none is left", 0, x.untilBy(1));
        x.fall(1);
        Check.due("one alone", 0, x.untilBy(0));
    }

    /** Promise 25: "(what 0 ..), that number (1; NONE)" */
    private static void hardestOfNoKind() {
        ChiefCircles x = new ChiefCircles();
        Check.refuses("hardest(2)", IllegalArgumentException.class, () -> x.hardest(2));
        for (int what : ODD) {
            Check.refuses("hardest(" + what + ")", IllegalArgumentException.class, () -> x.hardest(what));
        }
        Check.due("refused", 4, x.status(1));
    }

    /** "NONE: all are DOWN" */
    private static void hardestOfNone() {
        ChiefCircles x = Check.made("members 8;");
        for (int i = 0; i < 8; i++) {
            x.fall(i);
        }
        Check.due("none", -1, x.hardest(0));
        Check.due("no number", -1, x.hardest(1));
        x.rise(5);
        Check.due("the only one", 5, x.hardest(0));
        Check.due("none is left then", 0, x.hardest(1));
    }

    /** "The MEMBER that is not DOWN": just one, the last. */
    private static void hardestOfOne() {
        ChiefCircles x = Check.made("members 8;");
        for (int i = 0; i < 7; i++) {
            x.fall(i);
        }
        Check.due("the last", 7, x.hardest(0));
        Check.due("none is left then", 0, x.hardest(1));
    }

    /** "of alike ones the first" */
    private static void hardestOfAlikeOnes() {
        ChiefCircles x = Check.made("members 8;every 4;wait 4;");
        x.ticks(17);
        Check.due("the chief's fall: 4 and 4 to be alone, 4 and 4, 8 and 1", 25, x.untilBy(0));
        x.fall(0);
        for (int i = 1; i < 8; i++) {
            Check.due("alike", 25, x.untilBy(i));
        }
        Check.due("that number", 25, x.hardest(1));
        Check.due("the first", 1, x.hardest(0));
        ChiefCircles last = Check.made("members 8;ranks 1 2 3 4 5 6 7 8;every 4;wait 4;gap 5;");
        last.ticks(17);
        for (int i = 0; i < 7; i++) {
            Check.due("alike: 3 and 4, 8 and 1", 16, last.untilBy(i));
        }
        Check.due("but the last", 7, last.hardest(0));
        Check.due("that number", 25, last.hardest(1));
        ChiefCircles y = Check.made("members 3;gap 0;");
        Check.due("without an end all three", -1, y.hardest(1));
        Check.due("the first", 0, y.hardest(0));
    }

    /** "(none at all: more than any)": it comes first, last, or between. */
    private static void hardestWithoutEnd() {
        for (int i = 0; i < 3; i++) {
            ChiefCircles x = Check.made("members 3;gap 0;");
            x.cut(1 << i);
            for (int j = 0; j < 3; j++) {
                Check.due("without " + j, i == j ? -1 : 0, x.untilBy(j));
            }
            Check.due("hardest", i, x.hardest(0));
            Check.due("none at all", -1, x.hardest(1));
        }
    }

    /** "The MEMBER that is not DOWN": what were by others does not count. */
    private static void hardestOfThoseThatStand() {
        ChiefCircles x = Check.made("members 3;every 4;wait 4;");
        x.fall(0);
        x.ticks(17);
        Check.due("were 0 to rise", 17, x.untilBy(0));
        Check.due("were the chief to fall", 8, x.untilBy(1));
        Check.due("were the other to fall", 15, x.untilBy(2));
        Check.due("of those that stand", 2, x.hardest(0));
        Check.due("that number", 15, x.hardest(1));
    }

    /** Promise 26: "a RULE (0 to 3)", each in its bounds. */
    private static void untilRuleBounds() {
        for (int kind = 0; kind < 4; kind++) {
            int what = kind;
            ChiefCircles x = new ChiefCircles();
            Check.refuses("too small", IllegalArgumentException.class, () -> x.untilRule(what, LEAST[what] - 1));
            Check.refuses("too great", IllegalArgumentException.class, () -> x.untilRule(what, GREATEST[what] + 1));
            Check.refuses("least", IllegalArgumentException.class, () -> x.untilRule(what, Integer.MIN_VALUE));
            Check.refuses("greatest", IllegalArgumentException.class, () -> x.untilRule(what, Integer.MAX_VALUE));
            for (int v : new int[] {LEAST[what], GREATEST[what]}) {
                int told = x.untilRule(what, v);
                x.rule(what, v);
                Check.due("as it were", x.until(), told);
                x.undo();
            }
            Check.due("refused", 4, x.status(1));
        }
    }

    /** The same: other numbers are no RULE. */
    private static void untilRuleOfNoKind() {
        ChiefCircles x = new ChiefCircles();
        Check.refuses("untilRule(4, 1)", IllegalArgumentException.class, () -> x.untilRule(4, 1));
        for (int what : ODD) {
            Check.refuses("untilRule(" + what + ", 1)", IllegalArgumentException.class, () -> x.untilRule(what, 1));
        }
    }

    /** The same: it may be as it is. */
    private static void untilRuleOfTheSame() {
        ChiefCircles x = new ChiefCircles();
        for (int what = 0; what < 4; what++) {
            Check.due("the same", 21, x.untilRule(what, x.told(2 + what)));
        }
    }

    /** Promise 27: "(what 0)", "(1 ..)" */
    private static void untilLinksOfNoKind() {
        ChiefCircles x = new ChiefCircles();
        Check.refuses("untilLinks(2, 1)", IllegalArgumentException.class, () -> x.untilLinks(2, 1));
        for (int what : ODD) {
            Check.refuses("untilLinks(" + what + ", 1)", IllegalArgumentException.class, () -> x.untilLinks(what, 1));
        }
    }

    /** "(1; set of MEMBERS ..)" */
    private static void untilLinksOfNoSet() {
        for (int n = 2; n <= 8; n++) {
            ChiefCircles x = Check.made("members " + n + ";");
            for (int set : new int[] {1 << n, 1 << n | 1, -1, Integer.MIN_VALUE}) {
                Check.refuses("untilLinks(1, " + set + ")", IllegalArgumentException.class, () -> x.untilLinks(1, set));
            }
            Check.due("refused", 4, x.status(1));
            Check.due("the last cut off", 21, n == 2 ? 21 : x.untilLinks(1, 1 << n - 1));
        }
    }

    /** "(.. of 0 any)" */
    private static void untilLinksWholeOfAny() {
        ChiefCircles x = new ChiefCircles();
        x.cut(1);
        for (int set : new int[] {0, 1, 3, 4, -1, Integer.MIN_VALUE, Integer.MAX_VALUE}) {
            Check.due("whole, " + set, 21, x.untilLinks(0, set));
        }
        Check.due("none is refused", 0, x.status(1));
    }

    /** "between a set and all others": of none, or of none other. */
    private static void untilLinksOfNoneOrAll() {
        ChiefCircles x = Check.made("members 8;");
        int due = x.until();
        Check.due("of none", due, x.untilLinks(1, 0));
        Check.due("of all", due, x.untilLinks(1, 255));
    }

    /** "CUT .. besides": those that are CUT stay so. */
    private static void untilLinksBesides() {
        ChiefCircles x = Check.made("members 3;");
        x.cut(1);
        Check.due("each alone", 0, x.untilLinks(1, 2));
        Check.due("each alone", 0, x.untilLinks(1, 4));
        Check.due("as it is", x.until(), x.untilLinks(1, 1));
        Check.due("as it is", x.until(), x.untilLinks(1, 6));
    }

    /** Promise 28: "Behind so many TICKS (1 to 100)" */
    private static void aheadOneToHundred() {
        ChiefCircles x = new ChiefCircles();
        Check.refuses("ahead(0, 0)", IllegalArgumentException.class, () -> x.ahead(0, 0));
        Check.refuses("ahead(101, 0)", IllegalArgumentException.class, () -> x.ahead(101, 0));
        for (int n : ODD) {
            Check.refuses("ahead(" + n + ", 0)", IllegalArgumentException.class, () -> x.ahead(n, 0));
        }
        for (int n : new int[] {1, 100}) {
            int[] told = new int[4];
            for (int what = 0; what < 4; what++) {
                told[what] = x.ahead(n, what);
            }
            Check.due("handled", x.ticks(n), told[3]);
            Check.due("circles", x.told(9), told[0]);
            Check.due("twice", x.told(13), told[1]);
            Check.due("lost", x.told(8), told[2]);
            x.undo();
        }
    }

    /** The same: "0 CIRCLES .. 4 the CHIEF" */
    private static void aheadOfNoKind() {
        ChiefCircles x = new ChiefCircles();
        Check.refuses("ahead(1, 5)", IllegalArgumentException.class, () -> x.ahead(1, 5));
        for (int what : ODD) {
            Check.refuses("ahead(1, " + what + ")", IllegalArgumentException.class, () -> x.ahead(1, what));
        }
        Check.due("the last", 0, x.ahead(1, 4));
        Check.due("refused", 4, x.status(1));
    }

    /** "2 LOST": so far, then. */
    private static void aheadLost() {
        ChiefCircles x = new ChiefCircles();
        x.cut(1);
        Check.due("none", 0, x.ahead(8, 2));
        Check.due("both ASK", 2, x.ahead(9, 2));
        x.ticks(9);
        Check.due("those, and no more", 2, x.ahead(1, 2));
        Check.due("and two more", 4, x.ahead(12, 2));
    }

    /** "3 LETTERS HANDLED in these" */
    private static void aheadHandledInThese() {
        ChiefCircles x = new ChiefCircles();
        x.ticks(10);
        Check.due("none of those ahead", 0, x.ahead(2, 3));
        Check.due("INVITE", 1, x.ahead(3, 3));
        Check.due("the rest of seven", 3, x.ahead(11, 3));
    }

    /** "4 the CHIEF of most MEMBERS that are NORMAL (of alike ones the least ..)" */
    private static void aheadChiefOfAlikeOnes() {
        ChiefCircles x = Check.made("members 8;every 30;");
        Check.due("each its own", 0, x.ahead(1, 4));
        x.fall(0);
        Check.due("the least that is normal", 1, x.ahead(1, 4));
        ChiefCircles y = Check.made("members 5;ranks 1 2 3 4 5;every 4;wait 4;gap 5;");
        y.cut(3);
        y.ticks(17);
        Check.due("4 of three, 1 of two", 4, y.ahead(1, 4));
        y.fall(4);
        Check.due("its chief may be down, two each, the least", 1, y.ahead(1, 4));
        y.fall(0);
        Check.due("4 of two, 1 of one", 4, y.ahead(1, 4));
    }

    /** "(.. NONE)" */
    private static void aheadChiefOfNone() {
        ChiefCircles x = new ChiefCircles();
        Check.due("both are electing", -1, x.ahead(13, 4));
        x.fall(0);
        x.fall(1);
        Check.due("both are down", -1, x.ahead(1, 4));
        Check.due("no circle", 0, x.ahead(100, 0));
    }

    /** Promise 29: "Of n (1 to 20) SEEDS" */
    private static void stormsOneToTwenty() {
        ChiefCircles x = Check.made("members 4;every 5;wait 3;gap 1;");
        Check.refuses("storms(0, 1, 0)", IllegalArgumentException.class, () -> x.storms(0, 1, 0));
        Check.refuses("storms(21, 1, 0)", IllegalArgumentException.class, () -> x.storms(21, 1, 0));
        for (int n : ODD) {
            Check.refuses("storms(" + n + ", 1, 0)", IllegalArgumentException.class, () -> x.storms(n, 1, 0));
        }
        int sum = 0;
        for (int seed = 7; seed < 27; seed++) {
            sum += x.storms(1, seed, 2);
        }
        Check.due("twenty", sum, x.storms(20, 7, 2));
        Check.due("some end", sum > 0);
    }

    /** The same: "0 how many .. 1 the greatest .. 2 their sum" */
    private static void stormsOfNoKind() {
        ChiefCircles x = new ChiefCircles();
        Check.refuses("storms(1, 1, 3)", IllegalArgumentException.class, () -> x.storms(1, 1, 3));
        for (int what : ODD) {
            Check.refuses("storms(1, 1, " + what + ")", IllegalArgumentException.class, () -> x.storms(1, 1, what));
        }
        Check.due("refused", 4, x.status(1));
    }

    /** "x, x and 1, ..", "(32 bits, going round)": any SEED. */
    private static void stormsSeedsGoRound() {
        ChiefCircles x = Check.made("members 4;every 5;wait 3;gap 1;");
        int sum = x.storms(1, Integer.MAX_VALUE, 2) + x.storms(1, Integer.MIN_VALUE, 2);
        Check.due("behind the greatest comes the least", sum, x.storms(2, Integer.MAX_VALUE, 2));
        sum = x.storms(1, -1, 2) + x.storms(1, 0, 2);
        Check.due("0 behind -1", sum, x.storms(2, -1, 2));
        Check.due("one alike", x.storms(1, 5, 2) != x.storms(1, 6, 2) || x.storms(1, 6, 2) != x.storms(1, 7, 2));
    }

    /** "(32 bits, going round); x shifted right by 16 without sign, modulo m": SEEDS at their ends, by acts instead. */
    private static void stormsDrawsGoRound() {
        int[] seeds = {Integer.MIN_VALUE, Integer.MIN_VALUE + 1, -2, -1, 0, 1, Integer.MAX_VALUE};
        for (String text : new String[] {"members 2;every 7;", "members 5;every 5;wait 3;", "members 8;gap 1;"}) {
            ChiefCircles x = Check.made(text);
            for (int seed : seeds) {
                int due = OnPaperTest.storm(text, 0, seed);
                Check.due("ends", due < 0 ? 0 : 1, x.storms(1, seed, 0));
                Check.due("seed " + seed, Math.max(due, 0), x.storms(1, seed, 1));
            }
        }
    }

    /** "1 the greatest (0 without any)" */
    private static void stormsWithoutAny() {
        ChiefCircles x = Check.made("members 2;gap 0;wait 1;");
        Check.due("none ends", 0, x.storms(20, 1, 0));
        Check.due("the greatest", 0, x.storms(20, 1, 1));
        Check.due("their sum", 0, x.storms(20, 1, 2));
    }

    /** "all that are DOWN rise": those that were DOWN ahead of it, too. */
    private static void stormsOfThoseDown() {
        ChiefCircles x = Check.made("members 2;every 30;wait 30;");
        x.fall(0);
        x.fall(1);
        int late = 0;
        for (int seed = 0; seed < 20; seed++) {
            late += x.storms(1, seed, 2) > 0 ? 1 : 0;
        }
        Check.due("two that rose are not one at once", 20, late);
    }

    /** "0 how many of these are not NONE, 1 the greatest, 2 their sum" */
    private static void stormsGreatestAndSum() {
        ChiefCircles x = Check.made("members 2;every 30;wait 24;gap 1;delay 3;");
        int ended = 0;
        int greatest = 0;
        int sum = 0;
        for (int seed = 100; seed < 120; seed++) {
            int one = x.storms(1, seed, 0);
            ended += one;
            Check.due("alone, the greatest is the sum", x.storms(1, seed, 2), x.storms(1, seed, 1));
            Check.due("of none it is 0", one > 0 || x.storms(1, seed, 2) == 0);
            greatest = Math.max(greatest, x.storms(1, seed, 1));
            sum += x.storms(1, seed, 2);
        }
        Check.due("how many", ended, x.storms(20, 100, 0));
        Check.due("the greatest", greatest, x.storms(20, 100, 1));
        Check.due("their sum", sum, x.storms(20, 100, 2));
        Check.due("some end, some do not", ended > 0 && ended < 20);
    }

    /** Promise 30: "31 times what there is", 24 times for eight MEMBERS: a long goes round. */
    private static void printGoesRound() {
        ChiefCircles x = Check.made("members 8;");
        Check.due("new", print(x), x.print());
        boolean below = false;
        for (int k = 0; k < 20; k++) {
            x.fall(k % 8);
            x.rise(k % 8);
            Check.due("print", print(x), x.print());
            below |= x.print() < 0;
        }
        Check.due("below 0 at times", below);
    }

    private static long print(ChiefCircles x) {
        java.math.BigInteger sum = java.math.BigInteger.ZERO;
        for (int i = 0; i < x.told(0); i++) {
            for (int what : new int[] {4, 5, 7}) {
                sum = sum.multiply(java.math.BigInteger.valueOf(31))
                    .add(java.math.BigInteger.valueOf(x.member(i, what)));
            }
        }
        return sum.longValue();
    }

    /** The same: "GROUP", "UP", "PHASE", and nothing else. */
    private static void printOfNothingBut() {
        ChiefCircles x = new ChiefCircles();
        long due = x.print();
        Check.due("two alone", 10 * 28629151L + 923521L + 29791 + 11 * 961 + 2 * 31 + 1, due);
        x.ticks(7);
        Check.due("seven ticks", due, x.print());
        x.cut(1);
        x.rule(0, 3);
        Check.due("cut, ruled", due, x.print());
        x.fall(1);
        Check.due("one is down: PHASE 0", due - 1, x.print());
    }

    /** Promise 31: "How many calls were refused: 0 NoSuchElementException, 1 .., 2 .." */
    private static void statusOfEach() {
        ChiefCircles x = new ChiefCircles();
        for (int k = 1; k <= 3; k++) {
            Check.refuses("fall", NoSuchElementException.class, () -> x.fall(2));
            Check.due("no such one", k, x.status(0));
            Check.due("others", k - 1, x.status(1));
            Check.refuses("ticks", IllegalArgumentException.class, () -> x.ticks(0));
            Check.due("argument", k, x.status(1));
            Check.due("others", k - 1, x.status(2));
            Check.refuses("rise", IllegalStateException.class, () -> x.rise(0));
            Check.due("state", k, x.status(2));
        }
        Check.due("feed that does nothing is none", 3, x.status(1));
        Check.text(x, "members 2");
        x.undo();
        Check.due("nor is a fault, or undo of none", 9, x.status(0) + x.status(1) + x.status(2));
    }

    /** "NONE for others": and these are not refused. */
    private static void statusOfOthers() {
        ChiefCircles x = new ChiefCircles();
        Check.due("status(3)", -1, x.status(3));
        for (int what : ODD) {
            Check.due("status(" + what + ")", -1, x.status(what));
        }
        Check.due("none is refused", 0, x.status(0) + x.status(1) + x.status(2));
    }

    private interface Call {
        long of(ChiefCircles x);
    }

    /** "refusals, counted by reason": a refused call changes nothing else. */
    private static void refusedChangesNothing() {
        Call[] missing = {x -> x.fall(4), x -> x.rise(-1), x -> x.member(4, 0), x -> x.units(4, 0, 0),
            x -> x.units(0, 3, 0), x -> x.job(3, 0), x -> x.link(4, 0) ? 1 : 0, x -> x.link(0, 4) ? 1 : 0,
            x -> x.letter(x.told(7), 0), x -> x.tally(4, 0), x -> x.change(x.told(16), 0), x -> x.ranked(4, 0),
            x -> x.untilBy(4)};
        Call[] odd = {x -> x.text(x.told(15) + 1), x -> x.ticks(101), x -> x.cut(16), x -> x.rule(3, 4),
            x -> x.told(19), x -> x.member(3, 13), x -> x.units(3, 2, 2), x -> x.job(2, 4), x -> x.link(3, 3) ? 1 : 0,
            x -> x.letter(0, 7), x -> x.sent(8, 0), x -> x.tally(3, 7), x -> x.change(0, 4), x -> x.hardest(2),
            x -> x.untilRule(0, 31), x -> x.untilLinks(1, 16), x -> x.ahead(101, 0), x -> x.storms(21, 0, 0)};
        Call[] unfit = {x -> x.fall(3), x -> x.rise(0)};
        refused(missing, 0, NoSuchElementException.class);
        refused(odd, 1, IllegalArgumentException.class);
        refused(unfit, 2, IllegalStateException.class);
    }

    private static void refused(Call[] calls, int reason, Class<? extends RuntimeException> why) {
        for (int k = 0; k < calls.length; k++) {
            ChiefCircles x = Check.made("members 4;every 3;wait 4;delay 2;");
            x.ticks(18);
            x.fall(3);
            x.cut(1);
            x.ticks(2);
            Check.feed(x, "members 2");
            Check.due("letters and changes", x.told(7) > 0 && x.told(16) > 0);
            String before = Picture.of(x);
            Call call = calls[k];
            Check.refuses("call " + k, why, () -> call.of(x));
            for (int what = 0; what < 3; what++) {
                Check.due("call " + k + ", status " + what, what == reason ? 1 : 0, x.status(what));
            }
            Check.due("call " + k + " changes nothing", before.equals(Picture.of(x)));
            Check.due("call " + k + ": acts", 4, x.told(14));
            Check.due("call " + k + ": bytes", 20, x.told(15));
            Check.due("call " + k + ": fault", -1, x.fault());
        }
    }
}

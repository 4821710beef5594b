import java.util.NoSuchElementException;

/** Promises 5 to 11: each sentence that names a boundary has a test of its own. */
public final class EdgesOfActsTest {
    private static final int[] LEAST = {1, 1, 0, 1};
    private static final int[] GREATEST = {30, 30, 30, 3};

    public static void main(String[] args) {
        ticksOneToHundred();
        ticksThatHandleNone();
        cutOfMembersAlone();
        cutOfNoneOrAll();
        cutCountsThoseWhole();
        cutLeavesThoseWithin();
        cutOfEight();
        healOfNone();
        healOfAll();
        fallOfNoMember();
        fallOfWhoIsDown();
        fallCountsItsLetters();
        fallOfAll();
        riseOfNoMember();
        riseOfWhoIsNotDown();
        riseKeepsItsWork();
        riseWithoutTicks();
        ruleOfEachKind();
        ruleOfNoKind();
        ruleOfTheSame();
        ruleFromNowOn();
        undoOfNone();
        undoOfEachAct();
        undoOfWhoWasHeard();
        undoOfEightOfNine();
        undoThenAct();
        undoIsNoAct();
        refusedIsNoAct();
        paperIsNoAct();
        Check.end();
    }

    /** "So many TICKS (1 to 100)" */
    private static void ticksOneToHundred() {
        ChiefCircles x = new ChiefCircles();
        Check.refuses("ticks(0)", IllegalArgumentException.class, () -> x.ticks(0));
        Check.refuses("ticks(101)", IllegalArgumentException.class, () -> x.ticks(101));
        Check.refuses("ticks(-1)", IllegalArgumentException.class, () -> x.ticks(-1));
        Check.refuses("ticks(least)", IllegalArgumentException.class, () -> x.ticks(Integer.MIN_VALUE));
        Check.refuses("ticks(greatest)", IllegalArgumentException.class, () -> x.ticks(Integer.MAX_VALUE));
        Check.due("clock", 0, x.told(6));
        x.ticks(1);
        Check.due("clock", 1, x.told(6));
        x.ticks(100);
        Check.due("clock", 101, x.told(6));
    }

    /** "how many LETTERS were HANDLED": those that were LOST are not. */
    private static void ticksThatHandleNone() {
        ChiefCircles x = new ChiefCircles();
        Check.due("none was sent", 0, x.ticks(8));
        x.cut(1);
        Check.due("both are lost", 0, x.ticks(1));
        Check.due("lost", 2, x.told(8));
        ChiefCircles y = new ChiefCircles();
        int sum = 0;
        for (int k = 0; k < 100; k++) {
            sum += y.ticks(1);
        }
        Check.due("one by one or all at once", sum, new ChiefCircles().ticks(100));
    }

    /** "a set (bits, of MEMBERS alone)" */
    private static void cutOfMembersAlone() {
        for (int n = 2; n <= 8; n++) {
            ChiefCircles x = Check.made("members " + n + ";");
            for (int set : new int[] {1 << n, 1 << n | 1, -1, 1 << 30, Integer.MIN_VALUE, Integer.MIN_VALUE | 1}) {
                Check.refuses("cut(" + set + ") of " + n, IllegalArgumentException.class, () -> x.cut(set));
            }
            Check.due("none is cut", 0, x.heal());
            Check.due("the last alone", n - 1, x.cut(1 << n - 1));
        }
    }

    /** "LINKS between MEMBERS of a set .. and all others": of none, or of none other. */
    private static void cutOfNoneOrAll() {
        ChiefCircles x = Check.made("members 8;");
        Check.due("of none", 0, x.cut(0));
        Check.due("of all", 0, x.cut(255));
        Check.due("all are whole", 0, x.heal());
        Check.due("acts all the same", 3, x.told(14));
    }

    /** "how many were whole ahead" */
    private static void cutCountsThoseWhole() {
        ChiefCircles x = Check.made("members 4;");
        Check.due("three", 3, x.cut(1));
        Check.due("none any more", 0, x.cut(1));
        Check.due("the same seen from the others", 0, x.cut(14));
        Check.due("two of three", 2, x.cut(2));
        Check.due("the last", 1, x.cut(4));
        Check.due("none is left", 0, x.cut(8));
    }

    /** "LINKS between MEMBERS of a set .. and all others": others stay as they are, CUT or whole. */
    private static void cutLeavesThoseWithin() {
        ChiefCircles x = Check.made("members 4;");
        x.cut(1);
        Check.due("1 from two", 2, x.cut(3));
        Check.due("within, cut", 0, x.link(0, 1) ? 1 : 0);
        Check.due("without, whole", x.link(2, 3));
        Check.due("2 from 3", 1, x.cut(4));
        x.cut(3);
        Check.due("without, cut", 0, x.link(2, 3) ? 1 : 0);
        Check.due("all", 6, x.heal());
    }

    /** The same of eight MEMBERS. */
    private static void cutOfEight() {
        for (int set = 0; set < 256; set++) {
            int inside = Integer.bitCount(set);
            ChiefCircles x = Check.made("members 8;");
            Check.due("cut(" + set + ")", inside * (8 - inside), x.cut(set));
            for (int i = 1; i < 8; i++) {
                Check.due("link", (set >> i & 1) == (set & 1) == x.link(0, i));
            }
        }
    }

    /** "All LINKS are whole: how many were CUT.": none. */
    private static void healOfNone() {
        ChiefCircles x = new ChiefCircles();
        Check.due("none", 0, x.heal());
        Check.due("an act all the same", 1, x.told(14));
        x.cut(1);
        Check.due("the only one", 1, x.heal());
        Check.due("none any more", 0, x.heal());
    }

    /** The same: all. */
    private static void healOfAll() {
        ChiefCircles x = Check.made("members 8;");
        for (int i = 0; i < 7; i++) {
            Check.due("cut", 7 - i, x.cut(1 << i));
        }
        Check.due("all", 28, x.heal());
        Check.due("all whole", 0, x.heal());
    }

    /** "NoSuchElementException: no such MEMBER .. (so below, ahead of others)" */
    private static void fallOfNoMember() {
        ChiefCircles x = Check.made("members 8;");
        for (int none : new int[] {8, -1, Integer.MIN_VALUE, Integer.MAX_VALUE}) {
            Check.refuses("fall(" + none + ")", NoSuchElementException.class, () -> x.fall(none));
        }
        Check.text(x, "members 2;");
        Check.refuses("fall of one that was", NoSuchElementException.class, () -> x.fall(2));
        Check.due("refused", 5, x.status(0));
    }

    /** "IllegalStateException: it is DOWN." */
    private static void fallOfWhoIsDown() {
        ChiefCircles x = new ChiefCircles();
        x.fall(1);
        Check.refuses("fall", IllegalStateException.class, () -> x.fall(1));
        Check.due("down", 2, x.member(1, 1));
        Check.due("one act", 1, x.told(14));
        x.undo();
        Check.due("it stands", 0, x.fall(1));
    }

    /** "how many LETTERS to it are under way" */
    private static void fallCountsItsLetters() {
        ChiefCircles x = new ChiefCircles();
        x.ticks(7);
        Check.due("none was sent", 0, x.fall(0));
        x.undo();
        x.ticks(1);
        Check.due("one ASK", 1, x.fall(0));
        Check.due("one ASK", 1, x.fall(1));
        x.undo();
        x.undo();
        x.ticks(1);
        Check.due("one CHIEF", 1, x.fall(1));
        x.undo();
        x.ticks(1);
        Check.due("none that has come", 0, x.fall(0));
        Check.due("none that has come", 0, x.fall(1));
        ChiefCircles y = Check.made("members 8;every 1;delay 3;");
        y.ticks(1);
        Check.due("seven ASK", 7, y.fall(7));
    }

    /** "A MEMBER is DOWN (PHASE 0)": each may be, electing or not. */
    private static void fallOfAll() {
        ChiefCircles x = Check.made("members 8;");
        x.ticks(14);
        for (int i = 0; i < 8; i++) {
            Check.due("electing", 1, x.member(i, 1));
            x.fall(i);
            Check.due("down", 2, x.member(i, 1));
            Check.due("phase", 0, x.member(i, 7));
            Check.due("alarm", 0, x.member(i, 8));
        }
        Check.due("nothing is handled", 0, x.ticks(100));
        Check.due("nothing under way", 0, x.told(7));
    }

    /** "NoSuchElementException" of rise(). */
    private static void riseOfNoMember() {
        ChiefCircles x = Check.made("members 8;");
        for (int none : new int[] {8, -1, Integer.MIN_VALUE, Integer.MAX_VALUE}) {
            Check.refuses("rise(" + none + ")", NoSuchElementException.class, () -> x.rise(none));
        }
        x.fall(7);
        Check.due("the last", 27, x.rise(7));
        x.fall(7);
        Check.text(x, "members 2;");
        Check.refuses("rise of one that was", NoSuchElementException.class, () -> x.rise(7));
    }

    /** "IllegalStateException: it is not DOWN." */
    private static void riseOfWhoIsNotDown() {
        ChiefCircles x = new ChiefCircles();
        Check.refuses("rise, normal", IllegalStateException.class, () -> x.rise(0));
        x.ticks(12);
        Check.refuses("rise, electing", IllegalStateException.class, () -> x.rise(0));
        Check.due("group stays", 20, x.member(0, 4));
        x.fall(0);
        Check.due("it rises", 30, x.rise(0));
        Check.refuses("rise again", IllegalStateException.class, () -> x.rise(0));
        Check.due("refused", 3, x.status(2));
    }

    /** "(LEDGER, WORK, COUNT stay)" */
    private static void riseKeepsItsWork() {
        ChiefCircles x = new ChiefCircles();
        x.ticks(21);
        x.fall(0);
        x.ticks(3);
        Check.due("count was 2", 30, x.rise(0));
        Check.due("ledger", 5, x.units(0, 2, 0));
        Check.due("work", 4, x.units(0, 2, 1));
        Check.due("alone", 1, x.member(0, 5));
        Check.due("chief itself", 0, x.member(0, 2));
        Check.due("alarm", 8, x.member(0, 8));
    }

    /** The same in the tick of its fall: "GROUP" is another one each time. */
    private static void riseWithoutTicks() {
        ChiefCircles x = Check.made("members 8;");
        for (int count = 2; count < 12; count++) {
            x.fall(7);
            Check.due("group", 10 * count + 7, x.rise(7));
        }
        Check.due("clock", 0, x.told(6));
    }

    /** "0 EVERY, 1 WAIT, 2 GAP, 3 DELAY from now on" */
    private static void ruleOfEachKind() {
        for (int kind = 0; kind < 4; kind++) {
            int what = kind;
            ChiefCircles x = new ChiefCircles();
            Check.refuses("too small", IllegalArgumentException.class, () -> x.rule(what, LEAST[what] - 1));
            Check.refuses("too great", IllegalArgumentException.class, () -> x.rule(what, GREATEST[what] + 1));
            Check.refuses("least", IllegalArgumentException.class, () -> x.rule(what, Integer.MIN_VALUE));
            Check.refuses("greatest", IllegalArgumentException.class, () -> x.rule(what, Integer.MAX_VALUE));
            int was = x.told(2 + what);
            Check.due("what it was", was, x.rule(what, LEAST[what]));
            Check.due("what it was", LEAST[what], x.rule(what, GREATEST[what]));
            Check.due("what it is", GREATEST[what], x.told(2 + what));
            Check.due("two acts", 2, x.told(14));
        }
    }

    /** The same: other numbers are no RULE. */
    private static void ruleOfNoKind() {
        ChiefCircles x = new ChiefCircles();
        for (int what : new int[] {-1, 4, Integer.MIN_VALUE, Integer.MAX_VALUE}) {
            Check.refuses("rule(" + what + ", 1)", IllegalArgumentException.class, () -> x.rule(what, 1));
        }
        Check.due("refused", 4, x.status(1));
        Check.due("no act", 0, x.told(14));
    }

    /** "what it was": it may be the same. */
    private static void ruleOfTheSame() {
        ChiefCircles x = new ChiefCircles();
        Check.due("was", 8, x.rule(0, 8));
        Check.due("an act all the same", 1, x.told(14));
    }

    /** "from now on": an ALARM that is set stays. */
    private static void ruleFromNowOn() {
        ChiefCircles x = new ChiefCircles();
        x.rule(0, 1);
        Check.due("set", 8, x.member(0, 8));
        x.fall(0);
        x.rise(0);
        Check.due("set now", 1, x.member(0, 8));
        x.ticks(1);
        Check.due("WAIT", 4, x.member(0, 8));
        x.rule(1, 30);
        Check.due("set", 4, x.member(0, 8));
    }

    /** "NONE: none could." */
    private static void undoOfNone() {
        ChiefCircles x = new ChiefCircles();
        String before = Picture.whole(x);
        Check.due("undo", -1, x.undo());
        Check.due("undo", -1, x.undo());
        Check.due("all is as it was", before.equals(Picture.whole(x)));
        x.heal();
        Check.due("the only one", 0, x.undo());
        Check.due("undo", -1, x.undo());
    }

    private static void act(ChiefCircles x, int kind) {
        switch (kind) {
            case 0:
                x.ticks(100);
                break;
            case 1:
                x.cut(1);
                break;
            case 2:
                x.heal();
                break;
            case 3:
                x.fall(1);
                break;
            case 4:
                x.rise(2);
                break;
            default:
                x.rule(kind - 5, 3);
                break;
        }
    }

    /** "All is as ahead of the latest ticks(), cut(), heal(), fall(), rise(), rule()" */
    private static void undoOfEachAct() {
        for (int kind = 0; kind < 9; kind++) {
            ChiefCircles x = Check.made("members 3;every 4;gap 7;delay 2;");
            x.ticks(21);
            x.cut(2);
            x.fall(2);
            x.ticks(5);
            String before = Picture.of(x);
            act(x, kind);
            Check.due("act " + kind, !before.equals(Picture.of(x)));
            Check.due("acts ahead", 4, x.undo());
            Check.due("act " + kind + " taken back", before.equals(Picture.of(x)));
            act(x, kind);
            String then = Picture.of(x);
            x.undo();
            act(x, kind);
            Check.due("act " + kind + " again", then.equals(Picture.of(x)));
        }
    }

    /** The same: FOUND and HEARD, which are seldom there. */
    private static void undoOfWhoWasHeard() {
        ChiefCircles x = Check.made("members 3;every 4;wait 4;");
        x.fall(2);
        x.ticks(17);
        x.rise(2);
        x.ticks(6);
        Check.due("found", 4, x.member(0, 6));
        Check.due("heard", 2, x.member(0, 12));
        x.ticks(1);
        Check.due("merged", 0, x.member(0, 6) + x.member(0, 12));
        x.undo();
        Check.due("found again", 4, x.member(0, 6));
        Check.due("heard again", 2, x.member(0, 12));
    }

    /** "ACTS can be taken back, the latest 8." */
    private static void undoOfEightOfNine() {
        ChiefCircles x = new ChiefCircles();
        for (int k = 1; k <= 9; k++) {
            x.ticks(1);
            Check.due("can be taken back", Math.min(k, 8), x.told(14));
        }
        for (int k = 7; k >= 0; k--) {
            Check.due("still", k, x.undo());
        }
        Check.due("the first stands", 1, x.told(6));
        Check.due("none", -1, x.undo());
        Check.due("the first stands", 1, x.told(6));
    }

    /** "how many still can be taken back": with those that come then. */
    private static void undoThenAct() {
        ChiefCircles x = new ChiefCircles();
        for (int k = 0; k < 8; k++) {
            x.ticks(1);
        }
        Check.due("still", 7, x.undo());
        Check.due("still", 6, x.undo());
        x.ticks(50);
        Check.due("one more", 7, x.told(14));
        Check.due("still", 6, x.undo());
        Check.due("clock", 6, x.told(6));
        x.ticks(10);
        x.ticks(10);
        x.ticks(10);
        Check.due("eight at most", 8, x.told(14));
        for (int k = 7; k >= 0; k--) {
            Check.due("still", k, x.undo());
        }
        Check.due("clock", 1, x.told(6));
    }

    /** The same: undo() itself is none of them. */
    private static void undoIsNoAct() {
        ChiefCircles x = new ChiefCircles();
        x.ticks(1);
        x.ticks(1);
        x.undo();
        Check.due("not taken back in turn", 0, x.undo());
        Check.due("clock", 0, x.told(6));
    }

    /** The same: what was refused is none of them. */
    private static void refusedIsNoAct() {
        ChiefCircles x = new ChiefCircles();
        x.ticks(1);
        Check.refuses("ticks", IllegalArgumentException.class, () -> x.ticks(0));
        Check.refuses("cut", IllegalArgumentException.class, () -> x.cut(4));
        Check.refuses("fall", NoSuchElementException.class, () -> x.fall(2));
        Check.refuses("rise", NoSuchElementException.class, () -> x.rise(2));
        Check.refuses("rise", IllegalStateException.class, () -> x.rise(0));
        Check.refuses("rule", IllegalArgumentException.class, () -> x.rule(0, 0));
        Check.due("one", 1, x.told(14));
        Check.due("the tick", 0, x.undo());
        Check.due("clock", 0, x.told(6));
        Check.due("refusals stay counted", 6, x.status(0) + x.status(1) + x.status(2));
    }

    /** The same: nor is what is on paper, or asked. */
    private static void paperIsNoAct() {
        ChiefCircles x = new ChiefCircles();
        x.until();
        x.untilBy(0);
        x.hardest(0);
        x.untilRule(0, 1);
        x.untilLinks(1, 1);
        x.ahead(9, 0);
        x.storms(1, 1, 0);
        x.feed(1, 2, 3, 4, 5);
        Check.due("none", 0, x.told(14));
        Check.due("undo", -1, x.undo());
    }
}

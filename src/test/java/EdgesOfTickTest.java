import java.util.NoSuchElementException;

/** The tick, its letters and its phases: each sentence that names a boundary has a test of its own. */
public final class EdgesOfTickTest {
    public static void main(String[] args) {
        letters();
        handled();
        phases();
        Check.end();
    }

    private static void letters() {
        comesDelayTicksLater();
        delayAsItIsThen();
        threeHundredUnderWay();
        thoseThatCameAreUnderWayNoMore();
        lostAtOnceIsTakenBack();
        inOrderAsTheyWereSent();
        lostIfTheLinkIsCut();
        lostIfWhoItIsToIsDown();
        fromWhoIsDownItComes();
        chiefComesAsPhase2Ends();
        yesComesAsPhase5Ends();
        acceptComesAsPhase4Ends();
        readyComesAsPhase6Ends();
    }

    private static void handled() {
        askInPhase2();
        askOfAnotherGroup();
        askOfAnotherChief();
        askOfWhoElects();
        chiefOutOfPhase2();
        thereIsNotHeard();
        thereOfEach();
        thereToAnotherGroup();
        thereOfTheOldGroup();
        thereToNoChief();
        yesOfAnotherGroup();
        noFromNoChief();
        inviteToWhoElects();
        inviteOfOneAlone();
        inviteOfOneOfMany();
        inviteButToItsChief();
        acceptTooLate();
        acceptOfAnotherGroup();
        acceptLearnsTheGreater();
        ledgerAsItWasSent();
        readyOfAnotherGroup();
    }

    private static void phases() {
        alarmOfWhoIsDown();
        unitsBehindThePhases();
        phase1HearsAnew();
        leastUnitsAndLowest();
        phase2AloneFindsNone();
        phase2HearsAll();
        phase2MissesOne();
        phase3OfGreatestRank();
        phase3WithoutGap();
        phase3OfSevenGreater();
        phase3OfThoseFound();
        mergeLeavesNothing();
        inviteLeavesNothing();
        phase4Alone();
        phase5GoesAlone();
        phase6GoesAlone();
        ticksBehindWhich();
    }

    private static void is(String what, ChiefCircles x, int i, int phase, int group, int up) {
        Check.due(what + ": phase of " + i, phase, x.member(i, 7));
        Check.due(what + ": group of " + i, group, x.member(i, 4));
        Check.due(what + ": up of " + i, up, x.member(i, 5));
    }

    private static void again(ChiefCircles x, int i) {
        x.fall(i);
        x.rise(i);
    }

    /** "What is sent comes DELAY TICKS later" */
    private static void comesDelayTicksLater() {
        for (int delay = 1; delay <= 3; delay++) {
            ChiefCircles x = Check.made("members 2;every 1;wait 30;delay " + delay + ";");
            x.ticks(1);
            for (int left = delay; left > 1; left--) {
                Check.due("comes in", left, x.letter(0, 3));
                Check.due("none yet", 0, x.ticks(1));
            }
            Check.due("comes in", 1, x.letter(1, 3));
            Check.due("both", 2, x.ticks(1));
        }
    }

    /** "(DELAY as it is then)" */
    private static void delayAsItIsThen() {
        ChiefCircles x = Check.made("members 2;every 1;wait 30;delay 3;");
        x.ticks(1);
        x.rule(3, 1);
        Check.due("as it was", 0, x.ticks(2));
        Check.due("as it was", 2, x.ticks(1));
        Check.due("as it is", 1, x.letter(0, 3));
        x.rule(3, 3);
        Check.due("as it was", 2, x.ticks(1));
    }

    /** All eight ask in each tick: 280 letters are under way at 5, and 224 with 56 answers behind those come at 6. */
    private static ChiefCircles crowded(int ticks) {
        ChiefCircles x = Check.made("members 8;every 1;delay 3;");
        for (int k = 0; k < ticks; k++) {
            x.ticks(1);
            for (int i = 0; i < 8; i++) {
                again(x, i);
            }
        }
        return x;
    }

    /** "If 300 are under way, one more is LOST at once." */
    private static void threeHundredUnderWay() {
        ChiefCircles x = crowded(5);
        Check.due("fewer", 280, x.told(7));
        Check.due("none is lost", 0, x.told(8));
        Check.due("ahead", 36, x.ahead(1, 2));
        x.ticks(1);
        Check.due("full", 300, x.told(7));
        Check.due("the others of 56 ASK", 36, x.told(8));
        Check.due("the 300th is from 2", 2, x.letter(299, 0));
        Check.due("the 300th is to 6", 6, x.letter(299, 1));
        Check.due("and an ASK", 0, x.letter(299, 2));
        Check.refuses("the 301st", NoSuchElementException.class, () -> x.letter(300, 0));
        Check.due("those lost were sent", 6 * 56, x.sent(0, 0));
        Check.due("to the last, three times 7 answers, twice 7 ASK, and those of 0 and 1", 37, x.fall(7));
    }

    /** The same: what comes in a tick leaves room for the answers of that tick. */
    private static void thoseThatCameAreUnderWayNoMore() {
        ChiefCircles x = crowded(6);
        Check.due("full", 300, x.told(7));
        Check.due("all that come are handled", 112, x.ticks(1));
        Check.due("56 answers and 56 ASK for 112 that came", 300, x.told(7));
        Check.due("none is lost", 36, x.told(8));
    }

    /** The same, taken back. */
    private static void lostAtOnceIsTakenBack() {
        ChiefCircles x = crowded(5);
        x.ticks(1);
        x.undo();
        Check.due("under way", 280, x.told(7));
        Check.due("none is lost", 0, x.told(8));
        Check.due("none was sent", 5 * 56, x.sent(0, 0));
        x.ticks(1);
        Check.due("again", 36, x.told(8));
    }

    /** "FIRST all LETTERS that come now, in order as they were sent" */
    private static void inOrderAsTheyWereSent() {
        ChiefCircles x = Check.made("members 3;ranks 9 5 7;every 4;wait 4;gap 0;");
        x.ticks(8);
        Check.due("all merge", 6, x.told(7));
        again(x, 1);
        x.ticks(1);
        Check.due("the first INVITE is done", 20, x.member(1, 4));
        Check.due("the second is not", 0, x.member(1, 2));
        ChiefCircles y = Check.made("members 3;ranks 9 5 7;every 4;wait 4;gap 5;delay 2;");
        y.cut(1);
        y.ticks(8);
        y.heal();
        Check.due("2 merges", 1, y.member(2, 1));
        y.fall(0);
        y.rule(0, 1);
        y.rise(0);
        y.rule(3, 1);
        y.ticks(1);
        Check.due("sent first, by 2 to 1", 2, y.letter(0, 0));
        Check.due("comes now", 1, y.letter(0, 3));
        Check.due("sent then, by 0 to 1", 0, y.letter(1, 0));
        Check.due("comes now, too", 1, y.letter(1, 3));
        y.ticks(1);
        Check.due("as 1 was invited first, it gives no answer", 0, answers(y, 1));
    }

    private static int answers(ChiefCircles x, int from) {
        int found = 0;
        for (int k = 0; k < x.told(7); k++) {
            found += x.letter(k, 0) == from && x.letter(k, 2) == 1 ? 1 : 0;
        }
        return found;
    }

    /** "LOST, if the LINK is CUT": as it comes, not as it is sent. */
    private static void lostIfTheLinkIsCut() {
        ChiefCircles x = new ChiefCircles();
        x.ticks(8);
        x.cut(1);
        Check.due("whole as they were sent", 0, x.ticks(1));
        Check.due("both lost", 2, x.told(8));
        ChiefCircles y = new ChiefCircles();
        y.cut(2);
        y.ticks(8);
        y.heal();
        Check.due("cut as they were sent", 2, y.ticks(1));
        Check.due("none lost", 0, y.told(8));
    }

    /** "LOST, if .. who it is to is DOWN": as it comes. */
    private static void lostIfWhoItIsToIsDown() {
        ChiefCircles x = new ChiefCircles();
        x.ticks(8);
        x.fall(1);
        Check.due("one comes", 1, x.ticks(1));
        Check.due("one is lost", 1, x.told(8));
        ChiefCircles y = new ChiefCircles();
        y.fall(1);
        y.ticks(8);
        y.rise(1);
        Check.due("down as it was sent", 1, y.ticks(1));
        Check.due("none is lost", 0, y.told(8));
        Check.due("it answers", 1, y.sent(1, 0));
    }

    /** The same: who it is from may be DOWN. */
    private static void fromWhoIsDownItComes() {
        ChiefCircles x = new ChiefCircles();
        x.ticks(8);
        x.fall(0);
        Check.due("one comes", 1, x.ticks(1));
        Check.due("and is answered", 0, x.letter(0, 1));
        Check.due("in vain", 0, x.ticks(1));
        Check.due("lost", 2, x.told(8));
    }

    /** "FIRST all LETTERS .. THEN each MEMBER": CHIEF in the tick of the ALARM is in time, one later is not. */
    private static void chiefComesAsPhase2Ends() {
        ChiefCircles x = Check.made("members 2;every 4;wait 2;");
        x.ticks(6);
        is("in time", x, 0, 4, 20, 1);
        ChiefCircles y = Check.made("members 2;every 4;wait 1;");
        y.ticks(5);
        is("nobody found", y, 0, 1, 10, 1);
        Check.due("alarm", 4, y.member(0, 8));
        y.ticks(1);
        Check.due("too late", 0, y.member(0, 6));
        Check.due("though handled", 2, y.sent(1, 1));
    }

    /** The same of YES and PHASE 5. */
    private static void yesComesAsPhase5Ends() {
        ChiefCircles x = new ChiefCircles();
        x.ticks(21);
        x.rule(1, 2);
        x.ticks(8);
        Check.due("member asks", 2, x.member(1, 8));
        x.ticks(2);
        is("in time", x, 1, 1, 20, 3);
        Check.due("alarm", 8, x.member(1, 8));
        ChiefCircles y = new ChiefCircles();
        y.ticks(28);
        y.rule(1, 1);
        y.ticks(2);
        is("too late", y, 1, 1, 21, 2);
        Check.due("YES is under way", 3, y.letter(0, 2));
        y.ticks(1);
        is("and does nothing", y, 1, 1, 21, 2);
        Check.due("alarm", 7, y.member(1, 8));
    }

    private static ChiefCircles merging(int wait) {
        ChiefCircles x = Check.made("members 2;every 4;wait 4;");
        x.ticks(7);
        x.rule(1, wait);
        return x;
    }

    /** The same of ACCEPT and PHASE 4. */
    private static void acceptComesAsPhase4Ends() {
        ChiefCircles x = merging(1);
        x.ticks(1);
        Check.due("alarm", 2, x.member(0, 8));
        x.ticks(2);
        is("in time", x, 0, 1, 20, 3);
        Check.due("READY", 7, x.letter(0, 2));
        x.ticks(1);
        Check.due("one", 1, x.told(11));
    }

    /** The same of READY and PHASE 6. */
    private static void readyComesAsPhase6Ends() {
        ChiefCircles x = merging(2);
        x.ticks(4);
        x.rule(3, 3);
        x.ticks(1);
        Check.due("READY comes in", 3, x.letter(0, 3));
        Check.due("alarm", 3, x.member(1, 8));
        x.ticks(3);
        is("in time", x, 1, 1, 20, 3);
        ChiefCircles y = merging(1);
        y.ticks(2);
        y.rule(3, 3);
        y.ticks(1);
        Check.due("READY comes in", 3, y.letter(0, 3));
        Check.due("alarm", 2, y.member(1, 8));
        y.ticks(2);
        is("too late", y, 1, 1, 21, 2);
        y.ticks(1);
        is("and does nothing", y, 1, 1, 21, 2);
        Check.due("nor counts", 0, y.tally(1, 6));
    }

    /** "CHIEF: in PHASE 2 FOUND has j, too": an ASK from it is not enough. */
    private static void askInPhase2() {
        ChiefCircles x = new ChiefCircles();
        x.ticks(9);
        Check.due("in phase 2", 2, x.member(0, 7));
        Check.due("asked", 2, x.sent(0, 1));
        Check.due("none found", 0, x.member(0, 6) + x.member(1, 6));
        x.ticks(1);
        Check.due("found", 2, x.member(0, 6));
    }

    /** "is it NORMAL, CHIEF j, GROUP g: it sends YES g to j. .. Else nothing." */
    private static void askOfAnotherGroup() {
        ChiefCircles x = new ChiefCircles();
        x.ticks(21);
        x.rule(0, 1);
        again(x, 0);
        x.ticks(2);
        Check.due("handled", 3, x.sent(0, 1));
        Check.due("no answer", 0, x.told(7));
        is("all as it was", x, 1, 1, 20, 3);
    }

    /** The same: another's CHIEF asks in vain. */
    private static void askOfAnotherChief() {
        ChiefCircles x = Check.made("members 3;every 4;wait 4;");
        x.fall(2);
        x.ticks(17);
        Check.due("one", 1, x.told(11));
        x.rule(0, 1);
        x.rise(2);
        int handled = x.sent(0, 1);
        x.ticks(2);
        Check.due("both handled", handled + 2, x.sent(0, 1));
        Check.due("one answer", 1, x.told(7));
        Check.due("of the chief", 0, x.letter(0, 0));
        Check.due("CHIEF", 1, x.letter(0, 2));
    }

    /** The same: who is ELECTING gives no answer, be it its own chief. */
    private static void askOfWhoElects() {
        ChiefCircles x = new ChiefCircles();
        x.ticks(12);
        Check.due("0 is electing, and chief itself", 1, x.member(0, 1));
        x.cut(1);
        x.rule(0, 1);
        again(x, 1);
        x.ticks(1);
        x.heal();
        Check.due("1 asks it", 0, x.letter(0, 2));
        Check.due("handled", 1, x.ticks(1));
        Check.due("no answer", 0, x.told(7));
    }

    /** "CHIEF: in PHASE 2": in no other PHASE. */
    private static void chiefOutOfPhase2() {
        ChiefCircles x = Check.made("members 2;every 8;wait 4;delay 3;");
        x.ticks(12);
        is("answers are under way", x, 0, 1, 10, 1);
        Check.due("CHIEF", 1, x.letter(0, 2));
        Check.due("both", 2, x.ticks(2));
        Check.due("none found", 0, x.member(0, 6) + x.member(1, 6));
    }

    /** "THERE g: .. it sends YES g to j": HEARD stays. */
    private static void thereIsNotHeard() {
        ChiefCircles x = new ChiefCircles();
        x.ticks(28);
        x.cut(1);
        x.ticks(1);
        x.heal();
        Check.due("the ASK was lost", 1, x.told(8));
        Check.due("THERE is under way", 2, x.letter(0, 2));
        x.ticks(1);
        Check.due("YES to it", 3, x.letter(0, 2));
        Check.due("not heard", 0, x.member(0, 12));
        x.ticks(2);
        is("so it merges", x, 0, 4, 30, 1);
    }

    /** ".. UP with j: it sends YES g to j": to the first, the last, and those between, whoever is chief. */
    private static void thereOfEach() {
        for (int chief = 0; chief < 8; chief += 7) {
            String ranks = chief == 0 ? "8 7 6 5 4 3 2 1" : "1 2 3 4 5 6 7 8";
            ChiefCircles x = Check.made("members 8;ranks " + ranks + ";every 4;wait 4;gap 5;");
            x.ticks(22);
            Check.due("THERE of seven", 7, x.sent(2, 1));
            Check.due("YES to each, and YES of each", 14, x.sent(3, 0));
            Check.due("NO to none", 0, x.sent(4, 0));
            x.ticks(1);
            for (int i = 0; i < 8; i++) {
                is("rests, or waits for no more", x, i, i == chief ? 2 : 1, 20 + chief, 255);
            }
        }
    }

    /** "is i NORMAL, CHIEF itself, GROUP g ..: it sends YES g to j, else NO." */
    private static void thereToAnotherGroup() {
        ChiefCircles x = new ChiefCircles();
        x.ticks(21);
        again(x, 0);
        x.ticks(9);
        Check.due("NO", 4, x.letter(0, 2));
        Check.due("to 1", 1, x.letter(0, 1));
        Check.due("tells no group", -1, x.letter(0, 4));
    }

    /** The same: UP has it again, but by another GROUP than it told. */
    private static void thereOfTheOldGroup() {
        ChiefCircles x = new ChiefCircles();
        x.ticks(20);
        x.rule(0, 13);
        x.ticks(8);
        x.rule(1, 2);
        x.cut(1);
        x.ticks(1);
        x.heal();
        x.ticks(2);
        x.rule(3, 3);
        x.ticks(3);
        is("0 merges", x, 0, 4, 30, 1);
        is("1 asks 0", x, 1, 5, 20, 3);
        x.rule(3, 1);
        x.ticks(2);
        is("0 has 1 again", x, 0, 1, 30, 3);
        Check.due("and is normal", 0, x.member(0, 1));
        Check.due("THERE comes now", 1, x.letter(0, 3));
        x.ticks(1);
        Check.due("THERE", 1, x.sent(2, 1));
        Check.due("NO", 1, x.sent(4, 0));
    }

    /** The same: who is CHIEF itself no more says NO. */
    private static void thereToNoChief() {
        ChiefCircles x = Check.made("members 3;ranks 5 4 9;every 4;wait 4;");
        x.fall(2);
        x.ticks(17);
        x.rise(2);
        x.ticks(5);
        x.rule(0, 16);
        x.ticks(4);
        x.cut(2);
        x.ticks(1);
        x.heal();
        is("1 was not invited", x, 1, 1, 20, 3);
        x.ticks(12);
        Check.due("1 asks 0", 5, x.member(1, 7));
        Check.due("which is normal", 0, x.member(0, 1));
        Check.due("and holds 2 for its chief", 2, x.member(0, 2));
        x.ticks(1);
        Check.due("NO", 1, x.sent(4, 0));
        x.ticks(1);
        is("1 goes alone", x, 1, 1, 21, 2);
    }

    /** "YES g: .. in PHASE 2, if GROUP is g: HEARD has j, too." */
    private static void yesOfAnotherGroup() {
        ChiefCircles x = new ChiefCircles();
        x.ticks(28);
        x.rule(0, 1);
        again(x, 0);
        x.ticks(1);
        is("asks anew", x, 0, 2, 30, 1);
        int handled = x.sent(3, 1);
        x.ticks(1);
        Check.due("YES of its old group", handled + 1, x.sent(3, 1));
        Check.due("is not heard", 0, x.member(0, 12));
    }

    /** "NO: in PHASE 5, if j is its CHIEF": 1 asked 0 whether it is there, and holds 2 for its chief as NO comes. */
    private static void noFromNoChief() {
        ChiefCircles x = Check.made("members 3;ranks 9 5 1;every 4;wait 4;gap 5;");
        x.ticks(8);
        x.cut(4);
        x.ticks(1);
        x.heal();
        x.ticks(6);
        x.rule(0, 30);
        x.ticks(1);
        x.rule(0, 3);
        x.ticks(1);
        is("1 is of 0's", x, 1, 1, 20, 3);
        x.rule(1, 2);
        x.rule(3, 3);
        x.ticks(1);
        is("2 merges", x, 2, 4, 22, 4);
        x.ticks(2);
        is("1 asks 0", x, 1, 5, 20, 3);
        again(x, 1);
        x.rule(3, 1);
        x.ticks(2);
        x.rule(3, 3);
        x.rule(0, 1);
        x.rule(1, 9);
        x.ticks(1);
        Check.due("0 says NO", 1, x.sent(4, 0));
        x.ticks(1);
        is("1 asks 2", x, 1, 5, 22, 7);
        x.ticks(2);
        Check.due("NO has come", 1, x.sent(4, 1));
        is("and is nothing to 1", x, 1, 5, 22, 7);
        Check.due("which has 2 for its chief", 2, x.member(1, 2));
    }

    /** "(Who is ELECTING, gets no more INVITES done ..)" */
    private static void inviteToWhoElects() {
        ChiefCircles x = Check.made("members 3;every 4;wait 4;gap 0;");
        x.ticks(8);
        again(x, 2);
        Check.due("six", 6, x.ticks(1));
        is("who merged", x, 0, 4, 20, 1);
        is("who merged", x, 1, 4, 21, 2);
        is("who was invited", x, 2, 6, 20, 4);
        Check.due("once", 1, x.tally(2, 5));
        Check.due("one ACCEPT", 1, x.told(7));
    }

    /** "if it is CHIEF itself, it sends INVITE c, g to all others of UP but c": to none, alone. */
    private static void inviteOfOneAlone() {
        ChiefCircles x = new ChiefCircles();
        x.ticks(13);
        Check.due("ACCEPT alone", 1, x.told(7));
        Check.due("ACCEPT", 6, x.letter(0, 2));
        Check.due("one INVITE in all", 1, x.sent(5, 0));
    }

    /** The same: who is not CHIEF itself sends none on. */
    private static void inviteOfOneOfMany() {
        ChiefCircles x = Check.made("members 4;every 4;wait 4;gap 5;");
        x.cut(1);
        x.ticks(17);
        Check.due("1 leads 2 and 3", 14, x.member(1, 5));
        x.heal();
        x.ticks(8);
        Check.due("two INVITE at 7, one at 23, two sent on", 5, x.sent(5, 0));
        x.ticks(1);
        Check.due("2 and 3 send none on", 5, x.sent(5, 0));
        Check.due("but accept", 2, x.told(7));
    }

    /** "to all others of UP but c": 1 holds 0 for one of its own, when 0 invites it. */
    private static void inviteButToItsChief() {
        ChiefCircles x = Check.made("members 3;ranks 1 9 2;every 4;wait 4;gap 5;");
        x.ticks(17);
        again(x, 0);
        x.rule(0, 30);
        x.ticks(3);
        x.rule(1, 2);
        x.rule(2, 0);
        x.ticks(3);
        is("0 merges", x, 0, 4, 30, 1);
        Check.due("1 leads all", 7, x.member(1, 5));
        int sent = x.sent(5, 0);
        x.ticks(1);
        Check.due("sent on", sent + 1, x.sent(5, 0));
        Check.due("by 1", 1, x.letter(0, 0));
        Check.due("to 2 alone", 2, x.letter(0, 1));
    }

    /** "ACCEPT g: in PHASE 4" */
    private static void acceptTooLate() {
        ChiefCircles x = merging(1);
        x.rule(3, 2);
        x.ticks(3);
        is("nobody accepted", x, 0, 1, 20, 1);
        Check.due("ACCEPT is under way", 6, x.letter(0, 2));
        int ledger = x.units(0, 0, 0) + x.units(0, 1, 0) + x.units(0, 2, 0);
        x.ticks(2);
        Check.due("ACCEPT is handled", 1, x.sent(6, 1));
        is("too late", x, 0, 1, 20, 1);
        Check.due("nothing is learned", ledger + 2, x.units(0, 0, 0) + x.units(0, 1, 0) + x.units(0, 2, 0));
    }

    /** "ACCEPT g: .. if GROUP is g" */
    private static void acceptOfAnotherGroup() {
        ChiefCircles x = Check.made("members 2;every 4;wait 2;gap 30;");
        x.ticks(5);
        x.rule(3, 3);
        x.ticks(1);
        is("merges", x, 0, 4, 20, 1);
        x.rule(3, 1);
        x.rule(0, 1);
        again(x, 0);
        x.ticks(3);
        is("merges anew", x, 0, 4, 40, 1);
        Check.due("ACCEPT of the old group", 20, x.letter(0, 4));
        x.ticks(1);
        Check.due("is handled", 1, x.sent(6, 1));
        is("for nothing", x, 0, 4, 40, 1);
    }

    /** "ACCEPT g: .. LEDGER is of each JOB the greater one of both": each of both has the greater one of some. */
    private static void acceptLearnsTheGreater() {
        ChiefCircles x = new ChiefCircles();
        x.ticks(21);
        x.rule(0, 1);
        x.ticks(7);
        again(x, 0);
        again(x, 1);
        for (int k = 0; k < 40 && x.member(1, 7) != 6; k++) {
            x.ticks(1);
        }
        int[] due = new int[3];
        int mine = 0;
        int theirs = 0;
        for (int job = 0; job < 3; job++) {
            due[job] = Math.max(x.units(0, job, 0), x.units(1, job, 0));
            mine += x.units(0, job, 0) > x.units(1, job, 0) ? 1 : 0;
            theirs += x.units(0, job, 0) < x.units(1, job, 0) ? 1 : 0;
        }
        Check.due("each has more of some", mine > 0 && theirs > 0);
        x.ticks(1);
        Check.due("accepted", 3, x.member(0, 5));
        for (int job = 0; job < 3; job++) {
            Check.due("the greater one of " + job, due[job], x.units(0, job, 0));
        }
    }

    /** "LETTERS: from, to, a KIND, and what is told": the LEDGER is that of the sending, whatever is done since. */
    private static void ledgerAsItWasSent() {
        ChiefCircles x = Check.made("members 2;jobs 1;gap 30;");
        x.fall(0);
        x.ticks(4);
        x.rise(0);
        x.ticks(12);
        Check.due("0 merges", 4, x.member(0, 7));
        Check.due("and has done 11", 11, x.units(0, 0, 0));
        x.rule(3, 3);
        x.ticks(1);
        Check.due("1 accepts", 6, x.member(1, 7));
        Check.due("and has done 16", 16, x.units(1, 0, 0));
        again(x, 1);
        x.ticks(3);
        Check.due("it did more since", 19, x.units(1, 0, 0));
        Check.due("0 learns what was sent", 16, x.units(0, 0, 0));
        ChiefCircles y = Check.made("members 2;jobs 1;");
        y.fall(1);
        y.ticks(6);
        y.rise(1);
        y.ticks(13);
        y.rule(3, 3);
        y.ticks(3);
        Check.due("1 has done 6", 6, y.units(1, 0, 0));
        y.ticks(1);
        Check.due("0 did more than 11 since", 15, y.units(0, 0, 0));
        Check.due("1 learns what was sent", 11, y.units(1, 0, 0));
        Check.due("and has done 6 all the same", 6, y.units(1, 0, 1));
    }

    /** "1: is it CHIEF itself: FOUND, HEARD are empty" */
    private static void phase1HearsAnew() {
        ChiefCircles x = new ChiefCircles();
        x.ticks(39);
        Check.due("heard stays", 2, x.member(0, 12));
        x.ticks(1);
        Check.due("asks anew", 2, x.member(0, 7));
        Check.due("heard", 0, x.member(0, 12));
    }

    /** "READY g: in PHASE 6, if GROUP is g": 2 accepted 0, fell, rose, and accepted 1. */
    private static void readyOfAnotherGroup() {
        ChiefCircles x = Check.made("members 3;ranks 9 5 1;every 4;wait 4;gap 1;");
        x.ticks(8);
        x.cut(2);
        x.ticks(1);
        x.heal();
        again(x, 2);
        x.ticks(1);
        is("0 has it", x, 0, 4, 20, 5);
        is("but it is 1's", x, 2, 6, 21, 4);
        x.ticks(7);
        Check.due("READY of 0", 1, x.sent(7, 1));
        is("is nothing to it", x, 2, 6, 21, 4);
        x.ticks(1);
        is("but that of 1", x, 2, 1, 21, 6);
        Check.due("once", 1, x.tally(2, 6));
    }

    /** "each MEMBER in order that is not DOWN, and whose ALARM is the CLOCK" */
    private static void alarmOfWhoIsDown() {
        ChiefCircles x = new ChiefCircles();
        x.ticks(7);
        x.fall(1);
        x.ticks(1);
        Check.due("one ASK", 1, x.told(7));
        Check.due("by 0", 0, x.letter(0, 0));
        is("as it was", x, 1, 0, 11, 2);
        ChiefCircles y = new ChiefCircles();
        y.cut(1);
        y.ticks(7);
        again(y, 1);
        y.ticks(1);
        Check.due("its ALARM is a new one", 1, y.told(7));
        y.ticks(7);
        Check.due("and comes", 2, y.member(1, 7));
    }

    /** "THEN each that is NORMAL, and has a PART, does a unit": as it is behind its PHASE. */
    private static void unitsBehindThePhases() {
        ChiefCircles x = new ChiefCircles();
        x.ticks(11);
        Check.due("11 alone", 11, units(x, 0));
        x.ticks(1);
        Check.due("who merges does none", 11, units(x, 0));
        Check.due("who yields does", 12, units(x, 1));
        x.ticks(7);
        Check.due("who is invited does none", 12, units(x, 1));
        x.ticks(1);
        Check.due("who makes ready does", 12, units(x, 0));
        Check.due("who is not told does none", 12, units(x, 1));
        x.ticks(1);
        Check.due("who is told does", 13, units(x, 1));
        x.fall(1);
        x.ticks(1);
        Check.due("who is down does none", 13, units(x, 1));
    }

    private static int units(ChiefCircles x, int i) {
        int sum = 0;
        for (int job = 0; job < x.told(1); job++) {
            sum += x.units(i, job, 1);
        }
        return sum;
    }

    /** "of that of its PART of which its LEDGER has least (the lowest of several)" */
    private static void leastUnitsAndLowest() {
        ChiefCircles x = Check.made("members 2;jobs 3;");
        int[] due = {0, 1, 2, 0, 1};
        for (int k = 0; k < due.length; k++) {
            int before = x.units(1, due[k], 1);
            x.ticks(1);
            Check.due("the lowest of alike ones", before + 1, x.units(1, due[k], 1));
            Check.due("ledger, too", before + 1, x.units(1, due[k], 0));
        }
        ChiefCircles y = new ChiefCircles();
        y.ticks(21);
        Check.due("0 holds jobs 0 and 2", 5, y.member(0, 9));
        Check.due("0 did more of job 0", y.units(0, 2, 1) + 1, y.units(0, 0, 1));
        Check.due("but knows of as much of job 2", y.units(0, 2, 0), y.units(0, 0, 0));
        int before = y.units(0, 0, 1);
        y.ticks(1);
        Check.due("by its ledger", before + 1, y.units(0, 0, 1));
        again(y, 0);
        Check.due("1 holds job 1 alone", 2, y.member(1, 9));
        before = y.units(1, 1, 0);
        y.ticks(2);
        Check.due("though it has done most of it", before + 2, y.units(1, 1, 0));
    }

    /** "is FOUND empty, and HEARD has all others of UP": with none of them. */
    private static void phase2AloneFindsNone() {
        ChiefCircles x = Check.made("members 2;every 1;wait 1;");
        x.fall(1);
        x.ticks(100);
        Check.due("never merges", 0, x.tally(0, 4));
        is("its first group", x, 0, 1, 10, 1);
        Check.due("asks every 2", 50, x.sent(0, 0));
    }

    /** The same: it has all of them. */
    private static void phase2HearsAll() {
        ChiefCircles x = Check.made("members 8;every 4;wait 4;");
        x.ticks(17);
        x.ticks(5);
        Check.due("all but itself", 254, x.member(0, 12));
        x.ticks(2);
        is("rests", x, 0, 1, 20, 255);
        Check.due("merged once", 1, x.tally(0, 4));
    }

    /** The same: it lacks the last one. */
    private static void phase2MissesOne() {
        ChiefCircles x = Check.made("members 8;every 4;wait 4;");
        x.ticks(17);
        x.fall(7);
        x.ticks(5);
        Check.due("all but the last", 126, x.member(0, 12));
        x.ticks(2);
        is("merges", x, 0, 4, 30, 1);
        Check.due("and invites all", 14, x.sent(5, 0));
    }

    /** "PHASE 3, ALARM the CLOCK and m times GAP (with 0: it does PHASE 3 at once)": none has a greater RANK. */
    private static void phase3OfGreatestRank() {
        ChiefCircles x = Check.made("members 3;ranks 98 0 99;every 4;wait 4;gap 30;");
        x.ticks(8);
        is("at once", x, 2, 4, 22, 4);
        is("one is greater", x, 0, 3, 10, 1);
        Check.due("alarm", 30, x.member(0, 8));
        is("two are", x, 1, 3, 11, 2);
        Check.due("alarm", 60, x.member(1, 8));
    }

    /** The same: GAP is 0. */
    private static void phase3WithoutGap() {
        ChiefCircles x = Check.made("members 8;every 4;wait 4;gap 0;");
        x.ticks(8);
        for (int i = 0; i < 8; i++) {
            is("at once", x, i, 4, 20 + i, 1 << i);
            Check.due("merged", 1, x.tally(i, 4));
        }
        Check.due("invites", 56, x.told(7));
        ChiefCircles y = Check.made("members 2;every 4;wait 4;gap 1;");
        y.ticks(8);
        is("but with 1", y, 1, 3, 11, 2);
        Check.due("a tick later", 1, y.member(1, 8));
    }

    /** The same: m is 7, GAP 30. */
    private static void phase3OfSevenGreater() {
        ChiefCircles x = Check.made("members 8;every 4;wait 4;gap 30;");
        x.ticks(8);
        for (int i = 1; i < 8; i++) {
            is("yields", x, i, 3, 10 + i, 1 << i);
            Check.due("alarm", 30 * i, x.member(i, 8));
        }
    }

    /** "m being how many of FOUND have a greater RANK than it": not of others. */
    private static void phase3OfThoseFound() {
        ChiefCircles x = Check.made("members 4;every 4;wait 4;gap 5;");
        x.fall(0);
        x.ticks(8);
        is("1 is the greatest found", x, 1, 4, 21, 2);
        Check.due("one found is greater than 2", 5, x.member(2, 8));
        Check.due("two are greater than 3", 10, x.member(3, 8));
    }

    /** "MERGE: .. UP itself alone, FOUND, HEARD empty" */
    private static void mergeLeavesNothing() {
        ChiefCircles x = Check.made("members 3;every 4;wait 4;");
        x.fall(2);
        x.ticks(17);
        x.rise(2);
        x.ticks(6);
        Check.due("found", 4, x.member(0, 6));
        Check.due("heard", 2, x.member(0, 12));
        x.ticks(1);
        is("merges", x, 0, 4, 30, 1);
        Check.due("found", 0, x.member(0, 6));
        Check.due("heard", 0, x.member(0, 12));
        Check.due("invites both", 2, x.ticks(1));
    }

    /** "INVITE c, g: .. UP itself alone, FOUND, HEARD empty" */
    private static void inviteLeavesNothing() {
        ChiefCircles x = Check.made("members 3;ranks 5 4 9;every 4;wait 4;");
        x.fall(2);
        x.ticks(17);
        x.rise(2);
        x.ticks(8);
        is("0 yields", x, 0, 3, 20, 3);
        Check.due("found", 4, x.member(0, 6));
        Check.due("heard", 2, x.member(0, 12));
        x.ticks(1);
        is("is invited", x, 0, 6, 32, 1);
        Check.due("found", 0, x.member(0, 6));
        Check.due("heard", 0, x.member(0, 12));
    }

    /** "4: STATE NORMAL, it sends READY .. to all others of UP": to none, alone. */
    private static void phase4Alone() {
        ChiefCircles x = new ChiefCircles();
        x.ticks(12);
        x.fall(1);
        x.ticks(8);
        is("ready", x, 0, 1, 20, 1);
        Check.due("normal", 0, x.member(0, 1));
        Check.due("alarm", 8, x.member(0, 8));
        Check.due("READY to none", 0, x.sent(7, 0));
    }

    /** "5, 6: it goes ALONE." */
    private static void phase5GoesAlone() {
        ChiefCircles x = new ChiefCircles();
        x.ticks(21);
        x.fall(0);
        x.ticks(11);
        is("waits", x, 1, 5, 20, 3);
        Check.due("to the last tick", 1, x.member(1, 8));
        x.ticks(1);
        is("goes alone", x, 1, 1, 21, 2);
        Check.due("alarm", 8, x.member(1, 8));
        Check.due("twice by now", 2, x.tally(1, 3));
    }

    /** The same of PHASE 6. */
    private static void phase6GoesAlone() {
        ChiefCircles x = new ChiefCircles();
        x.ticks(13);
        x.fall(0);
        x.ticks(11);
        is("waits", x, 1, 6, 20, 2);
        Check.due("to the last tick", 1, x.member(1, 8));
        x.ticks(1);
        is("goes alone", x, 1, 1, 21, 2);
        Check.due("normal", 0, x.member(1, 1));
        Check.due("chief itself", 1, x.member(1, 2));
    }

    /** "TICKS behind which it was NORMAL (0), ELECTING (1), DOWN (2)" */
    private static void ticksBehindWhich() {
        ChiefCircles x = new ChiefCircles();
        x.ticks(12);
        Check.due("behind 12 it was electing", 11, x.tally(0, 0));
        Check.due("behind 12 it was electing", 1, x.tally(0, 1));
        x.ticks(8);
        Check.due("behind 20 it was normal", 12, x.tally(0, 0));
        Check.due("behind 20 it was normal", 8, x.tally(0, 1));
        x.fall(0);
        Check.due("no tick", 0, x.tally(0, 2));
        x.ticks(1);
        x.rise(0);
        Check.due("behind 21 it was down", 1, x.tally(0, 2));
        x.ticks(1);
        Check.due("behind 22 it was normal", 13, x.tally(0, 0));
    }
}

/** The TICK: what is HANDLED, and what the PHASES do. */
public final class TickTest {
    public static void main(String[] args) {
        twoBecomeOne();
        chiefAndMemberAskOneAnother();
        cutOffGoAlone();
        delays();
        yieldingIsOvertaken();
        noPauseWithoutGap();
        invitesAreHandedOn();
        staleMembersAreToldNo();
        readyIsLost();
        chiefMissesOne();
        whoElectsSaysNo();
        ledgersAreLearned();
        handedOnButToTheChief();
        strayLetters();
        work();
        Check.end();
    }

    private static void is(String what, ChiefCircles x, int i, int state, int chief, int group, int up, int phase,
        int alarm) {
        Check.due(what + ": state of " + i, state, x.member(i, 1));
        Check.due(what + ": chief of " + i, chief, x.member(i, 2));
        Check.due(what + ": group of " + i, group, x.member(i, 4));
        Check.due(what + ": up of " + i, up, x.member(i, 5));
        Check.due(what + ": phase of " + i, phase, x.member(i, 7));
        Check.due(what + ": alarm of " + i, alarm, x.member(i, 8));
    }

    private static void letter(String what, ChiefCircles x, int k, int... due) {
        for (int field = 0; field < 7; field++) {
            Check.due(what + ": letter(" + k + ", " + field + ")", due[field], x.letter(k, field));
        }
    }

    private static void twoBecomeOne() {
        ChiefCircles x = new ChiefCircles();
        x.ticks(7);
        is("7", x, 0, 0, 0, 10, 1, 1, 1);
        x.ticks(1);
        is("8 asks", x, 0, 0, 0, 10, 1, 2, 4);
        letter("8", x, 0, 0, 1, 0, 1, 10, -1, -1);
        letter("8", x, 1, 1, 0, 0, 1, 11, -1, -1);
        x.ticks(1);
        letter("9 answers", x, 0, 1, 0, 1, 1, -1, -1, -1);
        letter("9 answers", x, 1, 0, 1, 1, 1, -1, -1, -1);
        Check.due("not found yet", 0, x.member(0, 6));
        x.ticks(1);
        Check.due("found", 2, x.member(0, 6));
        Check.due("found", 1, x.member(1, 6));
        x.ticks(2);
        is("12 merges", x, 0, 1, 0, 20, 1, 4, 8);
        is("12 yields", x, 1, 0, 1, 11, 2, 3, 3);
        Check.due("found is empty then", 0, x.member(0, 6));
        letter("12 invites", x, 0, 0, 1, 5, 1, 20, 0, -1);
        x.ticks(1);
        is("13 accepts", x, 1, 1, 0, 20, 2, 6, 12);
        letter("13 accepts", x, 0, 1, 0, 6, 1, 20, -1, -1);
        Check.due("found is empty then", 0, x.member(1, 6));
        x.ticks(1);
        is("14 gathers", x, 0, 1, 0, 20, 3, 4, 6);
        x.ticks(6);
        is("20 is ready", x, 0, 0, 0, 20, 3, 1, 8);
        letter("20 is ready", x, 0, 0, 1, 7, 1, 20, -1, 3);
        Check.due("not one yet", 0, x.told(11));
        x.ticks(1);
        is("21 is one", x, 1, 0, 0, 20, 3, 1, 8);
        Check.due("one", 1, x.told(11));
    }

    private static void chiefAndMemberAskOneAnother() {
        ChiefCircles x = new ChiefCircles();
        x.ticks(28);
        is("28 chief asks", x, 0, 0, 0, 20, 3, 2, 4);
        letter("28", x, 0, 0, 1, 0, 1, 20, -1, -1);
        x.ticks(1);
        is("29 member asks", x, 1, 0, 0, 20, 3, 5, 4);
        letter("29 member hears", x, 0, 1, 0, 3, 1, 20, -1, -1);
        letter("29 member asks", x, 1, 1, 0, 2, 1, 20, -1, -1);
        x.ticks(1);
        Check.due("heard", 2, x.member(0, 12));
        letter("30 chief answers", x, 0, 0, 1, 3, 1, 20, -1, -1);
        x.ticks(1);
        is("31 member rests", x, 1, 0, 0, 20, 3, 1, 8);
        x.ticks(1);
        is("32 chief rests", x, 0, 0, 0, 20, 3, 1, 8);
        Check.due("heard stays", 2, x.member(0, 12));
        x.ticks(8);
        Check.due("heard is empty as it asks anew", 0, x.member(0, 12));
    }

    private static void cutOffGoAlone() {
        ChiefCircles x = new ChiefCircles();
        x.ticks(21);
        x.cut(1);
        x.ticks(11);
        is("32 chief missed its member", x, 0, 1, 0, 30, 1, 4, 8);
        Check.due("ASK and THERE are lost", 2, x.told(8));
        x.ticks(1);
        is("33 member goes alone", x, 1, 0, 1, 21, 2, 1, 8);
        Check.due("went alone", 2, x.tally(1, 3));
        x.ticks(7);
        is("40 chief is ready alone", x, 0, 0, 0, 30, 1, 1, 8);
        Check.due("one, each for itself", 1, x.told(11));
    }

    private static void delays() {
        ChiefCircles x = Check.made("members 2;every 2;wait 8;delay 3;");
        x.ticks(2);
        x.rule(3, 1);
        Check.due("ASK under way", 3, x.letter(1, 3));
        Check.due("come with the delay of their sending", 2, x.ticks(3));
        Check.due("two answers", 2, x.told(7));
        Check.due("come one later", 1, x.letter(0, 3));

        ChiefCircles y = Check.made("members 2;every 4;delay 3;");
        y.ticks(3);
        y.fall(1);
        y.rise(1);
        y.ticks(1);
        y.rule(3, 1);
        y.fall(1);
        y.rise(1);
        y.rule(0, 1);
        y.fall(1);
        y.rise(1);
        Check.due("its group", 41, y.member(1, 4));
        y.ticks(1);
        Check.due("two under way", 2, y.told(7));
        letter("sent first, comes last", y, 0, 0, 1, 0, 2, 10, -1, -1);
        letter("sent last, comes first", y, 1, 1, 0, 0, 1, 41, -1, -1);
        Check.due("that comes", 1, y.ticks(1));
        letter("still first", y, 0, 0, 1, 0, 1, 10, -1, -1);
        letter("the answer behind it", y, 1, 0, 1, 1, 1, -1, -1, -1);
        Check.due("both come", 2, y.ticks(1));
    }

    private static void yieldingIsOvertaken() {
        ChiefCircles x = Check.made("members 3;ranks 1 2 3;every 2;wait 2;gap 4;");
        x.ticks(4);
        Check.due("answers come in time, and 2 merges", 22, x.member(2, 4));
        is("least rank yields longest", x, 0, 0, 0, 10, 1, 3, 8);
        is("next one", x, 1, 0, 1, 11, 2, 3, 4);
        Check.due("whom it found", 6, x.member(0, 6));
        x.ticks(1);
        is("overtaken", x, 0, 1, 2, 22, 1, 6, 6);
        is("overtaken", x, 1, 1, 2, 22, 2, 6, 6);
        Check.due("invited once", 1, x.tally(1, 5));
        Check.due("merged never", 0, x.tally(1, 4));
        x.ticks(4);
        Check.due("one", 1, x.told(11));
        Check.due("chief", 4, x.chiefs());
        Check.due("until", 9, x.told(6));
    }

    private static void noPauseWithoutGap() {
        ChiefCircles x = Check.made("members 2;every 2;wait 2;gap 0;");
        x.ticks(4);
        is("merges at once", x, 0, 1, 0, 20, 1, 4, 4);
        is("merges at once", x, 1, 1, 1, 21, 2, 4, 4);
        Check.due("invites meet who is electing", 2, x.ticks(1));
        is("nothing done", x, 0, 1, 0, 20, 1, 4, 3);
        Check.due("no invite done", 0, x.tally(0, 5) + x.tally(1, 5));
        Check.due("none accepted", 0, x.sent(6, 0));
        x.ticks(3);
        is("normal again", x, 1, 0, 1, 21, 2, 1, 2);
        Check.due("never one", -1, x.until());
    }

    private static void invitesAreHandedOn() {
        ChiefCircles x = Check.made("members 4;every 4;wait 4;gap 5;");
        x.cut(3);
        x.ticks(17);
        Check.due("two circles", 2, x.told(9));
        is("chief of two", x, 2, 0, 2, 22, 12, 1, 3);
        x.heal();
        x.ticks(7);
        is("0 merges", x, 0, 1, 0, 30, 1, 4, 8);
        Check.due("it invites its own and the other chief", 2, x.told(7));
        letter("own", x, 0, 0, 1, 5, 1, 30, 0, -1);
        letter("other chief", x, 1, 0, 2, 5, 1, 30, 0, -1);
        x.ticks(1);
        is("the other chief accepts", x, 2, 1, 0, 30, 4, 6, 12);
        letter("own accepts", x, 0, 1, 0, 6, 1, 30, -1, -1);
        letter("handed on", x, 1, 2, 3, 5, 1, 30, 0, -1);
        letter("then accepts", x, 2, 2, 0, 6, 1, 30, -1, -1);
        x.ticks(1);
        is("who was handed on", x, 3, 1, 0, 30, 8, 6, 12);
        x.ticks(7);
        Check.due("one", 1, x.told(11));
        is("all", x, 3, 0, 0, 30, 15, 1, 4);
        Check.due("ready", 2, x.tally(3, 6));
    }

    private static void staleMembersAreToldNo() {
        ChiefCircles x = new ChiefCircles();
        x.ticks(21);
        x.fall(0);
        x.rise(0);
        Check.due("its new group", 30, x.member(0, 4));
        x.ticks(8);
        is("member asks", x, 1, 0, 0, 20, 3, 5, 4);
        x.ticks(1);
        Check.due("told no", 1, x.sent(4, 0));
        Check.due("nor a yes", 0, x.sent(3, 0));
        letter("no", x, 0, 0, 1, 4, 1, -1, -1, -1);
        x.ticks(1);
        is("goes alone at once", x, 1, 0, 1, 21, 2, 1, 8);
    }

    private static void readyIsLost() {
        ChiefCircles x = new ChiefCircles();
        x.ticks(20);
        x.cut(1);
        x.ticks(1);
        is("still joining", x, 1, 1, 0, 20, 2, 6, 4);
        Check.due("lost", 1, x.told(8));
        Check.due("the chief is alone in its circle", 1, x.member(0, 11));
        Check.due("though not in its up", 3, x.member(0, 5));
        x.ticks(4);
        is("goes alone", x, 1, 0, 1, 21, 2, 1, 8);
        Check.due("no ready", 0, x.tally(1, 6));
    }

    private static void chiefMissesOne() {
        ChiefCircles x = Check.made("members 3;every 4;wait 4;");
        x.ticks(17);
        Check.due("one", 1, x.told(11));
        x.fall(2);
        Check.due("its set has no place for who is down", 0, x.told(11));
        Check.due("until", 16, x.until());
        x.ticks(7);
        is("merges without having found any", x, 0, 1, 0, 30, 1, 4, 8);
        Check.due("invites all of up", 2, x.told(7));
        x.ticks(9);
        is("one of two", x, 0, 0, 0, 30, 3, 1, 3);
        Check.due("one", 1, x.told(11));
        Check.due("who is down holds its chief", 0, x.member(2, 2));
    }

    /** By delays that grow shorter THERE comes behind the ACCEPT that was sent later. */
    private static void whoElectsSaysNo() {
        ChiefCircles x = new ChiefCircles();
        x.ticks(20);
        x.rule(0, 12);
        x.ticks(8);
        x.cut(1);
        x.ticks(1);
        x.heal();
        x.ticks(2);
        x.rule(3, 2);
        x.ticks(1);
        is("32 merges", x, 0, 1, 0, 30, 1, 4, 8);
        x.rule(3, 3);
        x.ticks(1);
        letter("33 asks", x, 1, 1, 0, 2, 3, 20, -1, -1);
        x.rule(3, 1);
        x.ticks(1);
        is("34 accepts", x, 1, 1, 0, 30, 2, 6, 12);
        x.ticks(1);
        Check.due("35 gathered", 3, x.member(0, 5));
        x.ticks(1);
        Check.due("36 says no", 1, x.sent(4, 0));
        Check.due("and not yes", 0, x.sent(3, 0));
        x.ticks(1);
        is("37 pays no heed", x, 1, 1, 0, 30, 2, 6, 9);
    }

    private static void ledgersAreLearned() {
        ChiefCircles x = Check.made("members 2;jobs 2;every 8;wait 4;");
        x.fall(1);
        x.ticks(6);
        x.rise(1);
        x.ticks(15);
        Check.due("the member learns by READY", 6, x.units(1, 0, 0));
        Check.due("what it did not do", 3, x.units(1, 0, 1));
        Check.due("and goes on from there", 6, x.units(1, 1, 0));
        Check.due("with its own work", 4, x.units(1, 1, 1));
        ChiefCircles y = Check.made("members 2;jobs 1;every 8;wait 4;gap 30;");
        y.fall(0);
        y.ticks(6);
        y.rise(0);
        y.ticks(8);
        Check.due("each its own", 8, y.units(0, 0, 0));
        Check.due("each its own", 14, y.units(1, 0, 0));
        y.ticks(4);
        Check.due("merges", 1, y.member(0, 1));
        Check.due("before", 11, y.units(0, 0, 0));
        y.ticks(2);
        Check.due("the chief learns by ACCEPT", 18, y.units(0, 0, 0));
        Check.due("and its work is its own", 11, y.units(0, 0, 1));
    }

    /** 1 leads 0 and 2, rises from a fall as another circle's guest: the INVITE goes on to all but its sender. */
    private static void handedOnButToTheChief() {
        ChiefCircles x = Check.made("members 3;ranks 1 9 2;every 4;wait 4;gap 5;");
        x.ticks(17);
        is("1 leads all", x, 1, 0, 1, 21, 7, 1, 3);
        x.fall(0);
        x.rise(0);
        x.rule(0, 30);
        x.ticks(3);
        x.rule(1, 2);
        x.ticks(1);
        is("0 asks", x, 0, 0, 0, 20, 1, 2, 2);
        is("1 asks, too", x, 1, 0, 1, 21, 7, 2, 3);
        x.rule(2, 0);
        x.ticks(2);
        is("0 merges first", x, 0, 1, 0, 30, 1, 4, 4);
        Check.due("one invite", 1, x.sent(5, 0) - 2);
        x.ticks(1);
        Check.due("is handed on to 2 alone", 2, x.sent(5, 0) - 2);
    }

    private static void strayLetters() {
        ChiefCircles x = new ChiefCircles();
        x.ticks(8);
        x.fall(0);
        x.rise(0);
        x.ticks(2);
        Check.due("CHIEF counts in PHASE 2 alone", 0, x.member(0, 6));
        Check.due("but in that", 1, x.member(1, 6));
        ChiefCircles y = new ChiefCircles();
        y.ticks(13);
        y.fall(0);
        y.rise(0);
        y.ticks(1);
        Check.due("ACCEPT is handled", 1, y.sent(6, 1));
        is("but of another group", y, 0, 0, 0, 30, 1, 1, 7);
        ChiefCircles z = new ChiefCircles();
        z.ticks(20);
        z.fall(1);
        z.rise(1);
        z.ticks(1);
        Check.due("READY is handled", 1, z.sent(7, 1));
        is("but not in PHASE 6", z, 1, 0, 1, 21, 2, 1, 7);
        Check.due("nor counted", 0, z.tally(1, 6));
        ChiefCircles n = new ChiefCircles();
        n.ticks(30);
        n.fall(0);
        n.rise(0);
        n.ticks(1);
        is("YES was under way", n, 1, 0, 0, 20, 3, 1, 8);
    }

    private static void work() {
        ChiefCircles x = Check.made("members 3;ranks 5 9 7;jobs 5;every 2;wait 2;gap 2;");
        x.ticks(1);
        Check.due("alone, all jobs", 31, x.member(0, 9));
        Check.due("the lowest of several", 1, x.units(2, 0, 0));
        x.ticks(8);
        Check.due("one", 1, x.told(11));
        Check.due("place 2", 4, x.member(0, 9));
        Check.due("place 0", 9, x.member(1, 9));
        Check.due("place 1", 18, x.member(2, 9));
        int ahead = x.units(1, 0, 0) + x.units(1, 3, 0);
        int other = x.units(1, 1, 0) + x.units(1, 2, 0) + x.units(1, 4, 0);
        x.ticks(2);
        Check.due("units of its part", ahead + 2, x.units(1, 0, 0) + x.units(1, 3, 0));
        Check.due("none of others", other, x.units(1, 1, 0) + x.units(1, 2, 0) + x.units(1, 4, 0));

        ChiefCircles y = Check.made("members 3;jobs 1;every 2;wait 2;gap 2;");
        y.ticks(9);
        Check.due("one", 1, y.told(11));
        Check.due("no part", 0, y.member(1, 9));
        int done = y.units(1, 0, 1);
        y.ticks(1);
        Check.due("no unit", done, y.units(1, 0, 1));
        Check.due("normal all the same", 0, y.member(1, 1));
    }
}

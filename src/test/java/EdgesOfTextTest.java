/** "A TEXT .." and promises 1 to 4: each sentence that names a boundary has a test of its own. */
public final class EdgesOfTextTest {
    private static final String[] LINES = {"ranks 1 2", "jobs 2", "every 2", "wait 2", "gap 2", "delay 2"};

    public static void main(String[] args) {
        newObjectAsText();
        tapeUpTo200();
        feedBeyond200();
        feedHighestFirst();
        textOfNone();
        textOfFirstBytes();
        textBeyondTheTape();
        textAnewWithFewer();
        textAnewWithLetters();
        textAnewWithLinks();
        textAnewWithActs();
        textWithFault();
        faultOfTheLatest();
        ranksWithout();
        linesWithout();
        linesInAnyOrder();
        eachOnce();
        againAtItsWord();
        wordsAsManyAsStandThere();
        numbersAsManyAsStandThere();
        blanksMayStand();
        blanksOfNoOtherKind();
        whatCannotStand();
        endsTooEarly();
        noSuchNumber();
        ranksTooFewTooMany();
        firstFromTheLeft();
        Check.end();
    }

    /** "Two MEMBERS, as a TEXT that tells no more." */
    private static void newObjectAsText() {
        ChiefCircles x = Check.made("members 2;");
        ChiefCircles y = new ChiefCircles();
        Check.due("alike", Picture.whole(y).equals(Picture.whole(x)));
        x.ticks(100);
        y.ticks(100);
        Check.due("alike later", Picture.whole(y).equals(Picture.whole(x)));
    }

    private static ChiefCircles fed(int times) {
        ChiefCircles x = new ChiefCircles();
        for (int k = 1; k <= times; k++) {
            Check.due("feed", 20 * k, x.feed(0x20202020, 0x20202020, 0x20202020, 0x20202020, 0x20202020));
        }
        return x;
    }

    /** "The TAPE has up to 200 bytes." */
    private static void tapeUpTo200() {
        ChiefCircles x = fed(9);
        Check.due("the last twenty", 200, x.feed(0x20206d65, 0x6d626572, 0x73202020, 0x20202037, 0x2020203b));
        Check.due("bytes", 200, x.told(15));
        Check.due("all are read", 7, x.text(200));
    }

    /** "NONE, doing nothing, if there would be more than 200." */
    private static void feedBeyond200() {
        ChiefCircles x = fed(10);
        String before = Picture.whole(x);
        Check.due("one more", -1, x.feed(1, 2, 3, 4, 5));
        Check.due("and once more", -1, x.feed(-1, -1, -1, -1, -1));
        Check.due("nothing is done", before.equals(Picture.whole(x)));
        Check.due("blanks alone", -9, x.text(200));
        Check.due("up to the end", 200, x.fault());
        Check.due("there is room again", 20, x.feed(1, 2, 3, 4, 5));
    }

    /** "of each number the highest first" */
    private static void feedHighestFirst() {
        ChiefCircles x = new ChiefCircles();
        x.feed(0x6d656d62, 0x65727320, 0x353b8000, 0, 0x80000000);
        Check.due("members 5;", 5, x.text(10));
        x.feed(0x6d656d62, 0x65727320, 0x353b8000, 0, 0x80000000);
        Check.due("a byte of 128", -9, x.text(11));
        Check.due("its place", 10, x.fault());
        x.feed(0x6d656d62, 0x65727320, 0x353b20a0, 0, 0);
        Check.due("a byte of 160 is no blank", -9, x.text(12));
        Check.due("its place", 11, x.fault());
    }

    /** "The first n bytes of the TAPE": none. */
    private static void textOfNone() {
        ChiefCircles x = new ChiefCircles();
        Check.due("of an empty tape", -9, x.text(0));
        Check.due("at the length", 0, x.fault());
        Check.feed(x, "members 3;");
        Check.due("of a tape that is not", -9, x.text(0));
        Check.due("at the length", 0, x.fault());
        Check.due("empty then", 0, x.told(15));
        Check.due("members stay", 2, x.told(0));
    }

    /** "(empty then)": what stands behind the first n bytes goes, too. */
    private static void textOfFirstBytes() {
        ChiefCircles x = new ChiefCircles();
        Check.feed(x, "members 3;members 4;");
        Check.due("ten of twenty", 3, x.text(10));
        Check.due("empty then", 0, x.told(15));
        Check.due("nothing is left", -9, x.text(0));
        Check.feed(x, "members 3;jobs");
        Check.due("to the last byte", -9, x.text(20));
        Check.due("a zero", 14, x.fault());
    }

    /** "IllegalArgumentException: n is not 0 to the TAPE's bytes (it stays)." */
    private static void textBeyondTheTape() {
        ChiefCircles x = new ChiefCircles();
        refused(x, 1);
        Check.feed(x, "members 3;");
        refused(x, 21);
        refused(x, -1);
        refused(x, Integer.MAX_VALUE);
        refused(x, Integer.MIN_VALUE);
        Check.due("it stays", 20, x.told(15));
        Check.due("and is read", 3, x.text(10));
        ChiefCircles full = fed(10);
        refused(full, 201);
        Check.due("it stays", 200, full.told(15));
    }

    private static void refused(ChiefCircles x, int n) {
        int before = x.status(1);
        Check.refuses("text(" + n + ")", IllegalArgumentException.class, () -> x.text(n));
        Check.due("counted", before + 1, x.status(1));
    }

    private static ChiefCircles busy() {
        ChiefCircles x = Check.made("members 8;jobs 6;every 1;delay 3;gap 0;");
        x.ticks(40);
        x.fall(3);
        x.cut(15);
        x.ticks(7);
        return x;
    }

    /** "tell all anew": of those that were there nothing is left. */
    private static void textAnewWithFewer() {
        for (int n = 2; n <= 8; n++) {
            String text = "members " + n + ";jobs 1;";
            ChiefCircles x = busy();
            Check.text(x, text);
            ChiefCircles y = Check.made(text);
            Check.due("as a new one", Picture.whole(y).equals(Picture.whole(x)));
            x.ticks(30);
            y.ticks(30);
            Check.due("and goes on so", Picture.whole(y).equals(Picture.whole(x)));
            Check.text(x, "members 8;jobs 6;");
            Check.due("all of eight anew", Picture.whole(Check.made("members 8;jobs 6;")).equals(Picture.whole(x)));
        }
    }

    /** "(no LETTERS ..)" */
    private static void textAnewWithLetters() {
        ChiefCircles x = busy();
        Check.due("some are under way", x.told(7) > 0);
        Check.due("some were lost", x.told(8) > 0);
        Check.text(x, "members 8;");
        Check.due("under way", 0, x.told(7));
        Check.due("lost", 0, x.told(8));
        Check.due("none comes", 0, x.ticks(7));
        for (int kind = 0; kind < 8; kind++) {
            Check.due("sent and handled", 0, x.sent(kind, 0) + x.sent(kind, 1));
        }
    }

    /** "(.. LINKS whole ..)" */
    private static void textAnewWithLinks() {
        ChiefCircles x = busy();
        Check.text(x, "members 8;");
        Check.due("whole", x.link(0, 4));
        Check.due("none was cut", 0, x.heal());
    }

    /** "(.. nothing can be taken back)" */
    private static void textAnewWithActs() {
        ChiefCircles x = busy();
        Check.due("four acts", 4, x.told(14));
        Check.text(x, "members 3;");
        Check.due("none", 0, x.told(14));
        Check.due("undo", -1, x.undo());
        Check.due("members", 3, x.told(0));
        x.heal();
        Check.due("a new one can", 0, x.undo());
        Check.due("but no other", -1, x.undo());
    }

    /** "or the FAULT less 10 (all stays)" */
    private static void textWithFault() {
        ChiefCircles x = busy();
        String before = Picture.of(x);
        String[] texts = {"members 2;jobs 1;ranks 5;", "members 2;ranks 1 100;", "members 2;ranks 1 1;",
            "members 2;jobs 1;jobs 1;"};
        for (int kind = 1; kind <= 4; kind++) {
            Check.due("fault " + kind, kind - 10, Check.text(x, texts[kind - 1]));
            Check.due("all stays", before.equals(Picture.of(x)));
            Check.due("acts, too", 4, x.told(14));
        }
        Check.due("and can be taken back", 3, x.undo());
    }

    /** "The place of the FAULT of the latest text(); NONE without." */
    private static void faultOfTheLatest() {
        ChiefCircles x = new ChiefCircles();
        Check.due("without a text", -1, x.fault());
        Check.text(x, "members 2;jobs 9;");
        Check.due("its place", 15, x.fault());
        x.ticks(1);
        x.undo();
        Check.due("stays", 15, x.fault());
        Check.text(x, "x");
        Check.due("of the latest", 0, x.fault());
        Check.text(x, "members 2;");
        Check.due("without a fault", -1, x.fault());
    }

    /** "N less its number without" */
    private static void ranksWithout() {
        ChiefCircles x = Check.made("members 8;");
        Check.due("the first", 8, x.member(0, 0));
        Check.due("the last", 1, x.member(7, 0));
        Check.text(x, "members 8;ranks 1 2 3 4 5 6 7 8;");
        Check.due("told", 8, x.member(7, 0));
        Check.text(x, "members 5;");
        Check.due("anew", 1, x.member(4, 0));
        Check.due("fault behind ranks", -9, Check.text(x, "members 5;ranks 9 8 7 6 5"));
        Check.due("all stays", 5, x.member(0, 0));
    }

    /** "(3 without)", "(8)", "(4)", "(3)", "(1)" */
    private static void linesWithout() {
        ChiefCircles x = Check.made("members 2;jobs 6;every 7;wait 6;gap 5;delay 2;");
        Check.text(x, "members 2;");
        int[] due = {2, 3, 8, 4, 3, 1};
        for (int what = 0; what < due.length; what++) {
            Check.due("told(" + what + ") without", due[what], x.told(what));
        }
    }

    /** "{ LINE \";\" }": in any order, as many as are told. */
    private static void linesInAnyOrder() {
        for (int first = 0; first < 6; first++) {
            StringBuilder text = new StringBuilder("members 2;");
            for (int k = 0; k < 6; k++) {
                text.append(LINES[(first + k) % 6]).append(';');
            }
            ChiefCircles x = Check.made(text.toString());
            Check.due("jobs", 2, x.told(1));
            Check.due("every", 2, x.told(2));
            Check.due("wait", 2, x.told(3));
            Check.due("gap", 2, x.told(4));
            Check.due("delay", 2, x.told(5));
            Check.due("rank", 1, x.member(0, 0));
        }
    }

    /** "each once", and "4 a LINE of a sort that was told already" */
    private static void eachOnce() {
        for (int k = 0; k < 6; k++) {
            String text = "members 2;" + LINES[k] + ";" + LINES[(k + 1) % 6] + ";";
            Check.fault(text + LINES[k] + ";", 4, text.length());
        }
        Check.fault("members 2;members 2;", 1, 10);
    }

    /** "(at its word)": whatever stands behind it. */
    private static void againAtItsWord() {
        Check.fault("members 2;gap 2;   gap", 4, 19);
        Check.fault("members 2;gap 2;gap 99;", 4, 16);
        Check.fault("members 2;ranks 1 2;ranks 1 1;", 4, 20);
        Check.fault("members 2;gap 2;gaps 2;", 1, 16);
    }

    /** "Words: small letters, as many as stand there" */
    private static void wordsAsManyAsStandThere() {
        Check.fault("membersjobs 2;", 1, 0);
        Check.fault("memberz 2;", 1, 0);
        Check.fault("xembers 2;", 1, 0);
        Check.fault("members 2;xobs 2;", 1, 10);
        Check.fault("members 2;jobsjobs 2;", 1, 10);
        Check.fault("members 2;job s 2;", 1, 10);
        Check.fault("members 2;Jobs 2;", 1, 10);
        Check.fault("members 2;joBs 2;", 1, 10);
        Check.fault("members 2;a 2;", 1, 10);
        Check.fault("members 2;z 2;", 1, 10);
        for (String word : new String[] {"ranks", "jobs", "every", "wait", "gap", "delay"}) {
            Check.fault("members 2;" + word + "z 2;", 1, 10);
            Check.fault("members 2;" + word + "a 2;", 1, 10);
            Check.fault("members 2;" + word.substring(0, word.length() - 1) + " 2;", 1, 10);
            Check.fault("members 2;" + word.substring(1) + " 2;", 1, 10);
        }
    }

    /** "numbers: digits, as many as stand there" */
    private static void numbersAsManyAsStandThere() {
        Check.due("a zero ahead", 8, Check.made("members 8;jobs 006;every 0000000000000000030;").told(0));
        Check.fault("members 2;jobs 33;", 2, 15);
        Check.fault("members 2;jobs 3 3;", 1, 17);
        Check.fault("members 2;every 30000000000;", 2, 16);
        Check.fault("members 2;every 4294967297;", 2, 16);
        Check.fault("members 2;every 1.5;", 1, 17);
        Check.fault("members 2;every +1;", 1, 16);
        Check.fault("members 2;gap -0;", 1, 14);
        Check.due("zero", 0, Check.made("members 2;gap 0;").told(4));
        Check.due("zeros", 0, Check.made("members 2;gap 000;").told(4));
    }

    /** "blanks (32) may stand ahead of all these and of \";\", and at the end" */
    private static void blanksMayStand() {
        String plain = "members 3;ranks 1 2 3;gap 2;";
        String much = "   members   3   ;   ranks   1   2   3   ;   gap   2   ;   ";
        String none = "members3;ranks1 2 3;gap2;";
        ChiefCircles x = Check.made(plain);
        String due = Picture.of(x);
        Check.due("many", 3, Check.text(x, much));
        Check.due("alike", due.equals(Picture.of(x)));
        Check.due("none", 3, Check.text(x, none));
        Check.due("alike", due.equals(Picture.of(x)));
        Check.due("at the end alone", 3, Check.text(x, "members 3; "));
    }

    /** "blanks (32)": nothing else is one. */
    private static void blanksOfNoOtherKind() {
        for (char sign : new char[] {0, '\t', '\n', '\r', 31, 33, 160}) {
            Check.fault("members" + sign + "2;", 1, 7);
            Check.fault("members 2" + sign + ";", 1, 9);
            Check.fault("members 2;" + sign, 1, 10);
            Check.fault(sign + "members 2;", 1, 0);
        }
    }

    /** "1 what can't stand there", "at its first byte" */
    private static void whatCannotStand() {
        Check.fault("jobs 2;members 2;", 1, 0);
        Check.fault("2;", 1, 0);
        Check.fault(";", 1, 0);
        Check.fault("members;", 1, 7);
        Check.fault("members members 2;", 1, 8);
        Check.fault("members 2 jobs 2;", 1, 10);
        Check.fault("members 2;;", 1, 10);
        Check.fault("members 2; ;", 1, 11);
        Check.fault("members 2;3;", 1, 10);
        Check.fault("members 2;jobs;", 1, 14);
        Check.fault("members 2;jobs gap;", 1, 15);
        Check.fault("members 2;jobs 2,", 1, 16);
        Check.fault("members 2;jobs 2:", 1, 16);
        Check.fault("members 2;jobs /;", 1, 15);
        Check.fault("members 2;jobs :;", 1, 15);
        Check.fault("members 2;`", 1, 10);
        Check.fault("members 2;{", 1, 10);
    }

    /** "(at the length, if the text ends too early)" */
    private static void endsTooEarly() {
        String[] early = {"", " ", "members", "members ", "members 2", "members 2 ", "members 2;jobs",
            "members 2;jobs ", "members 2;jobs 2", "members 2;jobs 2  ", "members 2;ranks 1", "members 2;ranks 1 ",
            "members 2;ranks 1 2", "members 2;ranks"};
        for (String text : early) {
            Check.fault(text, 1, text.length());
        }
        String[] ends = {"members 2", "members", "members 2;ranks 1 2", "members 2;gap", "members 2;gap 0"};
        for (String text : ends) {
            ChiefCircles x = fed(9);
            x.text(180);
            String full = " ".repeat(200 - text.length()) + text;
            Check.due("a full tape", -9, Check.text(x, full));
            Check.due("at its length", 200, x.fault());
        }
        Check.fault("mem", 1, 0);
        Check.fault("members 2;jo", 1, 10);
    }

    /** "2 a number that is none such" */
    private static void noSuchNumber() {
        Check.fault("members 1", 2, 8);
        Check.fault("members 0", 2, 8);
        Check.fault("members 2;every 0", 2, 16);
        Check.fault("members 2;wait 0x", 2, 15);
        Check.fault("members 2;delay 0;", 2, 16);
        Check.fault("members 2;delay    4;", 2, 19);
        Check.fault("members 2;ranks 100", 2, 16);
    }

    /** "ranks" R R .. "(N of them ..)" */
    private static void ranksTooFewTooMany() {
        Check.fault("members 3;ranks 1 2;", 1, 19);
        Check.fault("members 3;ranks;", 1, 15);
        Check.fault("members 3;ranks 1 2 3 4;", 1, 22);
        Check.fault("members 3;ranks 1 2 3 3;", 1, 22);
        Check.fault("members 8;ranks 1 2 3 4 5 6 7 8 9;", 1, 32);
        Check.due("just so many", 8, Check.made("members 8;ranks 1 2 3 4 5 6 7 8;").told(0));
    }

    /** "FAULTS, the first from the left" */
    private static void firstFromTheLeft() {
        Check.fault("members 9;jobs 9;", 2, 8);
        Check.fault("members 2;ranks 1 1 100;", 3, 18);
        Check.fault("members 3;ranks 100 1 1;", 2, 16);
        Check.fault("members 2;gap 2;gap 2;x", 4, 16);
        Check.fault("members 2;x;gap 2;gap 2;", 1, 10);
    }
}

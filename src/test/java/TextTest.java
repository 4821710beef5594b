/** Promises 1 to 4: a new object, the tape, texts and their faults. */
public final class TextTest {
    public static void main(String[] args) {
        newObject();
        tape();
        whatIsTold();
        faults();
        endsEarly();
        wholeTape();
        allAnew();
        refusedTexts();
        Check.end();
    }

    private static void plain(ChiefCircles x, int members) {
        int[] due = {members, 3, 8, 4, 3, 1, 0, 0, 0, members, 1, 0, 1, 0, 0, 0, 0, 3, 0};
        for (int what = 0; what < due.length; what++) {
            Check.due("plain told(" + what + ")", due[what], x.told(what));
        }
        for (int i = 0; i < members; i++) {
            int[] of = {members - i, 0, i, 1, 10 + i, 1 << i, 0, 1, 8, 7, (1 << members) - 1, 1 << i, 0};
            for (int what = 0; what < of.length; what++) {
                Check.due("plain member(" + i + ", " + what + ")", of[what], x.member(i, what));
            }
            for (int what = 0; what < 7; what++) {
                Check.due("plain tally", what == 3 ? 1 : 0, x.tally(i, what));
            }
        }
    }

    private static void newObject() {
        ChiefCircles x = new ChiefCircles();
        plain(x, 2);
        Check.due("fault", -1, x.fault());
        Check.due("undo", -1, x.undo());
        for (int what = 0; what < 3; what++) {
            Check.due("status", 0, x.status(what));
        }
    }

    private static void tape() {
        ChiefCircles x = new ChiefCircles();
        for (int k = 1; k <= 10; k++) {
            Check.due("feed", 20 * k, x.feed(k, k, k, k, k));
        }
        Check.due("feed beyond", -1, x.feed(1, 2, 3, 4, 5));
        Check.due("bytes", 200, x.told(15));
        Check.due("zero bytes cannot stand", -9, x.text(200));
        Check.due("place", 0, x.fault());
        Check.due("empty then", 0, x.told(15));
        Check.due("feed", 20, x.feed(0x6d656d62, 0x65727320, 0x343b2020, -1, -1));
        Check.due("the first bytes alone, the highest first", 4, x.text(12));
        Check.due("empty then", 0, x.told(15));
        Check.feed(x, "members 2;");
        x.feed(-1, -1, -1, -1, -1);
        Check.due("a byte above 127", -9, x.text(40));
        Check.due("zero at", 10, x.fault());
    }

    private static void whatIsTold() {
        for (int n = 2; n <= 8; n++) {
            plain(Check.made("members " + n + ";"), n);
        }
        ChiefCircles x = Check.made("members 3;delay 3;gap 30;wait 30;every 30;jobs 6;ranks 0 99 50;");
        int[] told = {3, 6, 30, 30, 30, 3};
        for (int what = 0; what < told.length; what++) {
            Check.due("told(" + what + ")", told[what], x.told(what));
        }
        int[] ranks = {0, 99, 50};
        for (int i = 0; i < 3; i++) {
            Check.due("rank", ranks[i], x.member(i, 0));
        }
        Check.due("alarm", 30, x.member(2, 8));
        x = Check.made("members 2;every 1;wait 1;gap 0;delay 1;jobs 1;");
        int[] least = {2, 1, 1, 1, 0, 1};
        for (int what = 0; what < least.length; what++) {
            Check.due("told(" + what + ")", least[what], x.told(what));
        }
        x = new ChiefCircles();
        Check.due("no blanks", 3, Check.text(x, "members3;ranks7 8 9;jobs2;"));
        Check.due("rank", 9, x.member(2, 0));
        Check.due("blanks", 3, Check.text(x, "  members  0003 ; ranks  1   002  3 ;  gap 00 ;   "));
        Check.due("gap", 0, x.told(4));
        Check.due("rank", 2, x.member(1, 0));
        Check.due("fault", -1, x.fault());
    }

    private static void faults() {
        Check.fault("", 1, 0);
        Check.fault("   ", 1, 3);
        Check.fault("member", 1, 0);
        Check.fault("  Members 2;", 1, 2);
        Check.fault("memberss 2;", 1, 0);
        Check.fault("nembers 2;", 1, 0);
        Check.fault(";", 1, 0);
        Check.fault("members", 1, 7);
        Check.fault("members  ", 1, 9);
        Check.fault("members ;", 1, 8);
        Check.fault("members x;", 1, 8);
        Check.fault("members -2;", 1, 8);
        Check.fault("members 1;", 2, 8);
        Check.fault("members 9", 2, 8);
        Check.fault("members  9x", 2, 9);
        Check.fault("members 99999999999999999999999999;", 2, 8);
        Check.fault("members 4294967298;", 2, 8);
        Check.fault("members 2", 1, 9);
        Check.fault("members 2 ", 1, 10);
        Check.fault("members 2x;", 1, 9);
        Check.fault("members 2 2;", 1, 10);
        Check.fault("members 2;;", 1, 10);
        Check.fault("members 2;members 2;", 1, 10);
        Check.fault("members 2;\tjobs 2;", 1, 10);
        Check.fault("members 2;7", 1, 10);
        Check.fault("members 2; job 2;", 1, 11);
        Check.fault("members 2;jobsx 2;", 1, 10);
        Check.fault("members 2;jobsz 2;", 1, 10);
        Check.fault("members 2;jobs{2;", 1, 14);
        Check.fault("members 2;jobs`2;", 1, 14);
        Check.fault("members 2;jobs 2:", 1, 16);
        Check.fault("members 2;jobs /", 1, 15);
        Check.fault("members 2;jobs :", 1, 15);
        Check.fault("members 2;jobs", 1, 14);
        Check.fault("members 2;jobs;", 1, 14);
        Check.fault("members 2;jobs 2", 1, 16);
        Check.fault("members 2;jobs 0;", 2, 15);
        Check.fault("members 2;jobs 7;", 2, 15);
        Check.fault("members 2;every 0;", 2, 16);
        Check.fault("members 2;every 31;", 2, 16);
        Check.fault("members 2;wait 0;", 2, 15);
        Check.fault("members 2;wait 31;", 2, 15);
        Check.fault("members 2;gap 31;", 2, 14);
        Check.fault("members 2;delay 0;", 2, 16);
        Check.fault("members 2;delay 4;", 2, 16);
        Check.fault("members 2;ranks 1;", 1, 17);
        Check.fault("members 2;ranks 1 2 3;", 1, 20);
        Check.fault("members 2;ranks 100 1;", 2, 16);
        Check.fault("members 2;ranks 7 007;", 3, 18);
        Check.fault("members 3;ranks 7 8 7;", 3, 20);
        Check.fault("members 2;ranks 2 1;ranks", 4, 20);
        Check.fault("members 2;jobs 2;  jobs 9;", 4, 19);
        Check.fault("members 2;every 2;every 2;", 4, 18);
        Check.fault("members 2;wait 2;wait 2;", 4, 17);
        Check.fault("members 2;gap 2;gap 2;", 4, 16);
        Check.fault("members 2;delay 2;delay 2;", 4, 18);
        Check.fault("members 2;jobs 2;gap 2;jobs", 4, 23);
    }

    /** What stands on the tape behind the first n bytes tells nothing. */
    private static void endsEarly() {
        String text = " members 3;ranks 11 22 33;jobs 25;  gap  29;  ";
        for (int n = 0; n < text.length(); n++) {
            ChiefCircles x = new ChiefCircles();
            Check.feed(x, text);
            boolean whole = n == 11 || n == 26 || n >= 34 && n <= 36 || n >= 44;
            boolean number = n >= 33;
            int due = number ? -8 : whole ? 3 : -9;
            Check.due("text(" + n + ")", due, x.text(n));
            Check.due("fault of " + n, number ? 31 : whole ? -1 : n == 0 ? 0 : early(n), x.fault());
        }
    }

    /** A word that is not whole is a fault at its first byte, all else one at the end. */
    private static int early(int n) {
        return n > 1 && n < 8 ? 1 : n > 11 && n < 16 ? 11 : n > 26 && n < 30 ? 26 : n;
    }

    private static void wholeTape() {
        String[] ends = {"members 8;", "members 8", "members 8;gap 2", "members", "members 8; ", "members 8;jobs"};
        int[] kinds = {0, 1, 1, 1, 0, 1};
        for (int k = 0; k < ends.length; k++) {
            StringBuilder text = new StringBuilder(ends[k]);
            while (text.length() < 200) {
                text.insert(0, ' ');
            }
            ChiefCircles x = new ChiefCircles();
            Check.due("a whole tape", kinds[k] == 0 ? 8 : kinds[k] - 10, Check.text(x, text.toString()));
            Check.due("a whole tape", kinds[k] == 0 ? -1 : 200, x.fault());
        }
    }

    private static void allAnew() {
        ChiefCircles x = Check.made("members 3;");
        x.ticks(60);
        x.cut(1);
        x.fall(2);
        x.ticks(9);
        Check.due("acts", 4, x.told(14));
        Check.due("text", 3, Check.text(x, "members 3;"));
        plain(x, 3);
        Check.due("undo", -1, x.undo());
        Check.due("link", x.link(0, 1));
        for (int kind = 0; kind < 8; kind++) {
            Check.due("sent", 0, x.sent(kind, 0) + x.sent(kind, 1));
        }
        for (int i = 0; i < 3; i++) {
            for (int job = 0; job < 3; job++) {
                Check.due("units", 0, x.units(i, job, 0) + x.units(i, job, 1));
            }
        }
        Check.due("a fault", -9, Check.text(x, "members"));
        Check.due("its place", 7, x.fault());
        Check.due("a later text", 8, Check.text(x, "members 8;"));
        Check.due("no fault", -1, x.fault());
    }

    private static void refusedTexts() {
        ChiefCircles x = new ChiefCircles();
        Check.due("a fault", -9, Check.text(x, "members"));
        Check.feed(x, "members 3;");
        Check.refuses("text(21)", IllegalArgumentException.class, () -> x.text(21));
        Check.refuses("text(-1)", IllegalArgumentException.class, () -> x.text(-1));
        Check.due("the tape stays", 20, x.told(15));
        Check.due("and the fault", 7, x.fault());
        Check.due("refused", 2, x.status(1));
        Check.due("text", 3, x.text(10));
        Check.due("refusals stay counted", 2, x.status(1));
    }
}

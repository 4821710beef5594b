/** All that can be seen of an object, as one text to compare. */
final class Picture {
    private Picture() {
    }

    /** With what the acts to take back, the tape, the fault and the refusals add to it. */
    static String whole(ChiefCircles x) {
        StringBuilder text = new StringBuilder(of(x));
        text.append(x.told(14)).append(' ').append(x.told(15)).append(' ').append(x.fault());
        for (int what = 0; what < 3; what++) {
            text.append(' ').append(x.status(what));
        }
        return text.toString();
    }

    /** Of what goes on alone. */
    static String of(ChiefCircles x) {
        StringBuilder text = new StringBuilder();
        for (int what = 0; what <= 18; what++) {
            text.append(what == 14 || what == 15 ? 0 : x.told(what)).append(' ');
        }
        for (int i = 0; i < x.told(0); i++) {
            member(x, i, text);
        }
        for (int job = 0; job < x.told(1); job++) {
            for (int what = 0; what < 4; what++) {
                text.append(x.job(job, what)).append(' ');
            }
        }
        for (int kind = 0; kind < 8; kind++) {
            text.append(x.sent(kind, 0)).append(' ').append(x.sent(kind, 1)).append(' ');
        }
        for (int k = 0; k < x.told(7); k++) {
            for (int what = 0; what < 7; what++) {
                text.append(x.letter(k, what)).append(' ');
            }
        }
        for (int k = 0; k < x.told(16); k++) {
            for (int what = 0; what < 4; what++) {
                text.append(x.change(k, what)).append(' ');
            }
        }
        return text.append(x.chiefs()).append(' ').append(x.print()).append(' ').toString();
    }

    private static void member(ChiefCircles x, int i, StringBuilder text) {
        for (int what = 0; what <= 12; what++) {
            text.append(x.member(i, what)).append(' ');
        }
        for (int what = 0; what < 7; what++) {
            text.append(x.tally(i, what)).append(' ');
        }
        for (int job = 0; job < x.told(1); job++) {
            text.append(x.units(i, job, 0)).append(' ').append(x.units(i, job, 1)).append(' ');
        }
        for (int j = 0; j < x.told(0); j++) {
            text.append(i == j ? '-' : x.link(i, j) ? '1' : '0');
            text.append(x.ranked(i, j)).append(' ');
        }
    }
}

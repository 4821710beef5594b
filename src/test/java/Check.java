import java.util.function.LongSupplier;

/** What the tests share: answers against what is due, and texts on the tape. */
final class Check {
    private static int wrong;
    private static int made;

    private Check() {
    }

    static void due(String what, long want, long got) {
        made++;
        if (want != got) {
            wrong++;
            System.out.println(what + " answered " + got + ", due is " + want);
        }
    }

    static void due(String what, boolean got) {
        due(what, 1, got ? 1 : 0);
    }

    /** The call must throw just this class, no child of it. */
    static void refuses(String what, Class<? extends RuntimeException> want, LongSupplier call) {
        made++;
        String got;
        try {
            got = String.valueOf(call.getAsLong());
        } catch (RuntimeException e) {
            got = e.getClass().getName();
        }
        if (!got.equals(want.getName())) {
            wrong++;
            System.out.println(what + " answered " + got + ", due is " + want.getName());
        }
    }

    static void end() {
        System.out.println(made + " answers looked at, " + wrong + " not as due");
        System.exit(wrong == 0 && made > 0 ? 0 : 1);
    }

    /** Puts a text on the tape, filled up with zero bytes to whole feeds. */
    static void feed(ChiefCircles x, String text) {
        for (int at = 0; at < text.length(); at += 20) {
            int[] numbers = new int[5];
            for (int k = 0; k < 20; k++) {
                int sign = at + k < text.length() ? text.charAt(at + k) : 0;
                numbers[k / 4] = numbers[k / 4] << 8 | sign;
            }
            x.feed(numbers[0], numbers[1], numbers[2], numbers[3], numbers[4]);
        }
    }

    static int text(ChiefCircles x, String text) {
        feed(x, text);
        return x.text(text.length());
    }

    static ChiefCircles made(String text) {
        ChiefCircles x = new ChiefCircles();
        due("text " + text, text.charAt(8) - '0', text(x, text));
        return x;
    }

    /** The text has a fault of this kind at this place, and all but the tape stays. */
    static void fault(String text, int kind, int place) {
        ChiefCircles x = new ChiefCircles();
        x.rule(0, 5);
        due("text '" + text + "'", kind - 10, text(x, text));
        due("fault of '" + text + "'", place, x.fault());
        due("empty then", 0, x.told(15));
        due("all stays", 5, x.told(2));
        due("and can be taken back", 0, x.undo());
    }
}

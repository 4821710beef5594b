import java.util.Random;

/** Random runs of calls, each answer compared with the plain model's. */
public final class ModelTest {
    private static final String[] NAMES = {"feed", "text", "fault", "ticks", "cut", "heal", "fall", "rise", "rule",
        "undo", "told", "member", "units", "job", "link", "letter", "sent", "tally", "change", "chiefs", "ranked",
        "until", "untilBy", "hardest", "untilRule", "untilLinks", "ahead", "storms", "print", "status"};
    private static final int[] ODD = {-1, 0, 1, 2, 8, 9, 30, 31, 100, 101, 255, 256, Integer.MIN_VALUE,
        Integer.MAX_VALUE};

    private static int full;

    public static void main(String[] args) {
        int runs = args.length > 0 ? Integer.parseInt(args[0]) : 300;
        int first = args.length > 1 ? Integer.parseInt(args[1]) : 1;
        int wrong = 0;
        for (int seed = first; seed < first + runs && wrong < 10; seed++) {
            wrong += run(seed) ? 0 : 1;
            wrong += seed % 3 > 0 || crowdedRun(seed) ? 0 : 1;
        }
        wrong += full > 0 ? 0 : 1;
        System.out.println(runs + " random runs, and " + full + " in which 300 letters were under way: "
            + wrong + " not as the model's");
        System.exit(wrong == 0 ? 0 : 1);
    }

    private static boolean run(int seed) {
        Random random = new Random(seed);
        ChiefCircles x = new ChiefCircles();
        Model model = new Model();
        StringBuilder log = new StringBuilder();
        int calls = 0;
        while (calls < 500) {
            if (calls == 0 || random.nextInt(120) == 0) {
                String text = randomText(random);
                for (int at = 0; at < text.length(); at += 20) {
                    int[] a = new int[5];
                    for (int k = 0; k < 20; k++) {
                        a[k / 4] = a[k / 4] << 8 | (at + k < text.length() ? text.charAt(at + k) : 32);
                    }
                    calls++;
                    if (!same(x, model, "feed", a, log, seed)) {
                        return false;
                    }
                }
                calls++;
                if (!same(x, model, "text", new int[] {text.length(), 0, 0, 0, 0}, log, seed)) {
                    return false;
                }
            }
            calls++;
            String name = random.nextInt(3) == 0 ? NAMES[3 + random.nextInt(7)] : NAMES[random.nextInt(NAMES.length)];
            if (!same(x, model, name, arguments(random, name), log, seed)) {
                return false;
            }
        }
        return true;
    }

    /** All fall and rise in nearly each tick, so that they ask again and again, and 300 letters are under way. */
    private static boolean crowdedRun(int seed) {
        Random random = new Random(seed);
        ChiefCircles x = new ChiefCircles();
        Model model = new Model();
        StringBuilder log = new StringBuilder();
        String text = "members 8;every 1;wait " + (1 + random.nextInt(3)) + ";gap " + random.nextInt(3) + ";delay 3;";
        boolean alike = Check.text(x, text) == 8 && text(model, text) == 8;
        int lost = 0;
        for (int k = 0; k < 22 && alike; k++) {
            alike = same(x, model, "ticks", new int[] {1, 0, 0, 0, 0}, log, seed);
            for (int i = 0; i < 8 && alike; i++) {
                if (random.nextInt(9) > 0) {
                    alike = same(x, model, "fall", new int[] {i, 0, 0, 0, 0}, log, seed)
                        && same(x, model, "rise", new int[] {i, 0, 0, 0, 0}, log, seed);
                }
            }
            String name = random.nextInt(5) > 0 ? "until" : random.nextBoolean() ? "ahead" : "rule";
            int[] what = {2, 2, 0, 0, 0};
            if (name.equals("rule")) {
                what = new int[] {3, 1 + random.nextInt(3), 0, 0, 0};
            }
            alike = alike && same(x, model, name, what, log, seed);
            for (int part : new int[] {7, 8, 11, 13}) {
                alike = alike && same(x, model, "told", new int[] {part, 0, 0, 0, 0}, log, seed);
            }
            if (x.told(7) == 300) {
                lost = x.told(8);
                alike = alike && same(x, model, "letter", new int[] {299, random.nextInt(7), 0, 0, 0}, log, seed);
            }
        }
        full += lost > 0 ? 1 : 0;
        return alike;
    }

    private static long text(Model model, String text) {
        for (int at = 0; at < text.length(); at += 20) {
            int[] a = new int[5];
            for (int k = 0; k < 20; k++) {
                a[k / 4] = a[k / 4] << 8 | (at + k < text.length() ? text.charAt(at + k) : 0);
            }
            model.call("feed", a);
        }
        return model.call("text", text.length());
    }

    private static boolean same(ChiefCircles x, Model model, String name, int[] a, StringBuilder log, int seed) {
        String got;
        String want;
        try {
            got = String.valueOf(answer(x, name, a));
        } catch (RuntimeException e) {
            got = e.getClass().getName();
        }
        try {
            want = String.valueOf(model.call(name, a));
        } catch (RuntimeException e) {
            want = e.getClass().getName();
        }
        log.append(name).append(java.util.Arrays.toString(a)).append(" = ").append(want).append('\n');
        if (!got.equals(want)) {
            String[] lines = log.toString().split("\n");
            System.out.println("seed " + seed + ", call " + lines.length + ": " + lines[lines.length - 1]
                + " by the model, but " + got);
        }
        return got.equals(want);
    }

    private static String randomText(Random random) {
        int n = 2 + random.nextInt(7);
        StringBuilder text = new StringBuilder("members " + n + ";");
        if (random.nextBoolean()) {
            text.append("ranks");
            int step = 1 + random.nextInt(9);
            int start = random.nextInt(90);
            for (int k = 0; k < n; k++) {
                text.append(' ').append((start + k * step * 11) % 100);
            }
            text.append(';');
        }
        int busy = random.nextInt(3);
        String[] words = {"jobs", "every", "wait", "gap", "delay"};
        int[][] most = {{6, 30, 30, 31, 3}, {6, 3, 3, 2, 3}, {6, 12, 8, 6, 2}};
        for (int k = 0; k < 5; k++) {
            if (random.nextInt(4) != 0) {
                int v = random.nextInt(most[busy][k]) + (k == 3 ? 0 : 1);
                text.append(random.nextBoolean() ? " " : "").append(words[k]).append(" ").append(v).append(";");
            }
        }
        if (random.nextInt(3) == 0) {
            int at = random.nextInt(text.length());
            String[] bits = {" ", ";", "9", "0", "x", "jobs", "gap 3;", "A", "31", "members"};
            String bit = bits[random.nextInt(bits.length)];
            text.replace(at, Math.min(text.length(), at + random.nextInt(3)), bit);
        }
        return text.length() > 200 ? text.substring(0, 200) : text.toString();
    }

    private static int[] arguments(Random random, String name) {
        int[] a = new int[5];
        for (int k = 0; k < 5; k++) {
            a[k] = random.nextInt(12) == 0 ? ODD[random.nextInt(ODD.length)] : random.nextInt(8);
        }
        switch (name) {
            case "ticks":
                a[0] = random.nextInt(10) == 0 ? a[0] : 1 + random.nextInt(random.nextBoolean() ? 4 : 40);
                break;
            case "cut":
                a[0] = random.nextInt(10) == 0 ? a[0] : random.nextInt(1 << 1 + random.nextInt(8));
                break;
            case "rule":
            case "untilRule":
                a[0] = random.nextInt(10) == 0 ? a[0] : random.nextInt(4);
                a[1] = random.nextInt(8) == 0 ? a[1] : random.nextInt(a[0] == 3 ? 4 : 12);
                break;
            case "told":
                a[0] = random.nextInt(20);
                break;
            case "member":
                a[1] = random.nextInt(14);
                break;
            case "letter":
            case "change":
                a[0] = random.nextInt(10) == 0 ? a[0] : random.nextInt(45);
                break;
            case "untilLinks":
                a[0] = random.nextInt(3);
                a[1] = random.nextInt(10) == 0 ? a[1] : random.nextInt(1 << 1 + random.nextInt(8));
                break;
            case "ahead":
                a[0] = random.nextInt(10) == 0 ? a[0] : 1 + random.nextInt(60);
                break;
            case "storms":
                a[0] = random.nextInt(8) == 0 ? a[0] : 1 + random.nextInt(3);
                a[1] = random.nextInt();
                a[2] = random.nextInt(4);
                break;
            default:
                break;
        }
        return a;
    }

    private static long answer(ChiefCircles x, String name, int[] a) {
        switch (name) {
            case "feed": return x.feed(a[0], a[1], a[2], a[3], a[4]);
            case "text": return x.text(a[0]);
            case "fault": return x.fault();
            case "ticks": return x.ticks(a[0]);
            case "cut": return x.cut(a[0]);
            case "heal": return x.heal();
            case "fall": return x.fall(a[0]);
            case "rise": return x.rise(a[0]);
            case "rule": return x.rule(a[0], a[1]);
            case "undo": return x.undo();
            case "told": return x.told(a[0]);
            case "member": return x.member(a[0], a[1]);
            case "units": return x.units(a[0], a[1], a[2]);
            case "job": return x.job(a[0], a[1]);
            case "link": return x.link(a[0], a[1]) ? 1 : 0;
            case "letter": return x.letter(a[0], a[1]);
            case "sent": return x.sent(a[0], a[1]);
            case "tally": return x.tally(a[0], a[1]);
            case "change": return x.change(a[0], a[1]);
            case "chiefs": return x.chiefs();
            case "ranked": return x.ranked(a[0], a[1]);
            case "until": return x.until();
            case "untilBy": return x.untilBy(a[0]);
            case "hardest": return x.hardest(a[0]);
            case "untilRule": return x.untilRule(a[0], a[1]);
            case "untilLinks": return x.untilLinks(a[0], a[1]);
            case "ahead": return x.ahead(a[0], a[1]);
            case "storms": return x.storms(a[0], a[1], a[2]);
            case "print": return x.print();
            default: return x.status(a[0]);
        }
    }
}

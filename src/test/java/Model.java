import java.util.ArrayDeque;
import java.util.ArrayList;
import java.util.Comparator;
import java.util.Deque;
import java.util.List;
import java.util.NoSuchElementException;
import java.util.TreeSet;

/** The document once more, written as plainly as can be and without regard for room, to compare with. */
final class Model {
    static final class Man {
        int number;
        int rank;
        int state;
        int chief;
        int count;
        int group;
        int phase;
        int alarm;
        TreeSet<Integer> up = new TreeSet<>();
        TreeSet<Integer> found = new TreeSet<>();
        TreeSet<Integer> heard = new TreeSet<>();
        int[] ledger = new int[6];
        int[] work = new int[6];
        int[] tally = new int[7];

        Man copy() {
            Man m = new Man();
            m.number = number;
            m.rank = rank;
            m.state = state;
            m.chief = chief;
            m.count = count;
            m.group = group;
            m.phase = phase;
            m.alarm = alarm;
            m.up = new TreeSet<>(up);
            m.found = new TreeSet<>(found);
            m.heard = new TreeSet<>(heard);
            m.ledger = ledger.clone();
            m.work = work.clone();
            m.tally = tally.clone();
            return m;
        }
    }

    record Note(int from, int to, int kind, int due, int group, int man, TreeSet<Integer> up, int[] ledger) {
    }

    record Token(char sort, String text, int place) {
    }

    static final class Sight {
        int jobs;
        int clock;
        int lost;
        int[] rules = {8, 4, 3, 1};
        boolean[][] cut = new boolean[8][8];
        int[] sent = new int[8];
        int[] handled = new int[8];
        List<Man> men = new ArrayList<>();
        List<Note> notes = new ArrayList<>();
        List<int[]> changes = new ArrayList<>();

        Sight copy() {
            Sight s = new Sight();
            s.jobs = jobs;
            s.clock = clock;
            s.lost = lost;
            s.rules = rules.clone();
            s.sent = sent.clone();
            s.handled = handled.clone();
            for (int i = 0; i < 8; i++) {
                s.cut[i] = cut[i].clone();
            }
            men.forEach(m -> s.men.add(m.copy()));
            s.notes.addAll(notes);
            s.changes.addAll(changes);
            return s;
        }

        void group(Man m, int g) {
            if (m.group != g) {
                changes.add(new int[] {clock, m.number, m.group, g});
            }
            m.group = g;
        }

        void alone(Man m) {
            m.count++;
            group(m, m.count * 10 + m.number);
            m.chief = m.number;
            m.up = new TreeSet<>(List.of(m.number));
            m.state = 0;
            m.found.clear();
            m.heard.clear();
            m.phase = 1;
            m.alarm = clock + rules[0];
            m.tally[3]++;
        }

        void send(Man from, int to, int kind, int group, int man, TreeSet<Integer> up) {
            sent[kind]++;
            if (notes.size() >= 300) {
                lost++;
            } else {
                TreeSet<Integer> told = up == null ? null : new TreeSet<>(up);
                notes.add(new Note(from.number, to, kind, clock + rules[3], group, man, told, from.ledger.clone()));
            }
        }

        int tick() {
            clock++;
            int done = 0;
            for (int k = 0; k < notes.size();) {
                Note note = notes.get(k);
                if (note.due != clock) {
                    k++;
                    continue;
                }
                notes.remove(k);
                if (cut[note.from][note.to] || men.get(note.to).state == 2) {
                    lost++;
                } else {
                    done++;
                    handled[note.kind]++;
                    handle(men.get(note.to), note);
                }
            }
            for (Man m : men) {
                if (m.state != 2 && m.alarm == clock) {
                    phase(m);
                }
            }
            for (Man m : men) {
                part(m).stream().min(Comparator.comparing((Integer k) -> m.ledger[k]).thenComparing(k -> k))
                    .ifPresent(k -> {
                        m.ledger[k]++;
                        m.work[k]++;
                    });
            }
            men.forEach(m -> m.tally[m.state]++);
            return done;
        }

        void handle(Man i, Note note) {
            int j = note.from;
            int g = note.group;
            boolean normal = i.state == 0;
            boolean own = i.chief == i.number;
            if (note.kind == 0) {
                if (normal && own) {
                    send(i, j, 1, -1, -1, null);
                } else if (normal && i.chief == j && i.group == g) {
                    send(i, j, 3, g, -1, null);
                }
            } else if (note.kind == 1) {
                if (i.phase == 2) {
                    i.found.add(j);
                }
            } else if (note.kind == 2) {
                boolean mine = normal && own && i.group == g && i.up.contains(j);
                send(i, j, mine ? 3 : 4, mine ? g : -1, -1, null);
            } else if (note.kind == 3) {
                if (i.phase == 5 && i.chief == j && i.group == g) {
                    i.phase = 1;
                    i.alarm = clock + rules[0];
                } else if (i.phase == 2 && i.group == g) {
                    i.heard.add(j);
                }
            } else if (note.kind == 4) {
                if (i.phase == 5 && i.chief == j) {
                    alone(i);
                }
            } else if (note.kind == 5) {
                if (normal && i.number != note.man) {
                    if (own) {
                        for (int to : i.up) {
                            if (to != i.number && to != note.man) {
                                send(i, to, 5, g, note.man, null);
                            }
                        }
                    }
                    i.state = 1;
                    i.chief = note.man;
                    group(i, g);
                    i.up = new TreeSet<>(List.of(i.number));
                    i.found.clear();
                    i.heard.clear();
                    send(i, note.man, 6, g, -1, null);
                    i.phase = 6;
                    i.alarm = clock + 3 * rules[1];
                    i.tally[5]++;
                }
            } else if (note.kind == 6) {
                if (i.phase == 4 && i.group == g) {
                    i.up.add(j);
                    learn(i, note);
                }
            } else if (i.phase == 6 && i.group == g) {
                i.up = new TreeSet<>(note.up);
                learn(i, note);
                i.state = 0;
                i.phase = 1;
                i.alarm = clock + rules[0];
                i.tally[6]++;
            }
        }

        void learn(Man i, Note note) {
            for (int k = 0; k < jobs; k++) {
                i.ledger[k] = Math.max(i.ledger[k], note.ledger[k]);
            }
        }

        void phase(Man i) {
            if (i.phase == 1 && i.chief == i.number) {
                i.found.clear();
                i.heard.clear();
                for (Man m : men) {
                    if (m != i) {
                        send(i, m.number, 0, i.group, -1, null);
                    }
                }
                i.phase = 2;
                i.alarm = clock + rules[1];
            } else if (i.phase == 1) {
                send(i, i.chief, 2, i.group, -1, null);
                i.phase = 5;
                i.alarm = clock + rules[1];
            } else if (i.phase == 2) {
                TreeSet<Integer> others = new TreeSet<>(i.up);
                others.remove(i.number);
                if (i.found.isEmpty() && i.heard.containsAll(others)) {
                    i.phase = 1;
                    i.alarm = clock + rules[0];
                } else {
                    long m = i.found.stream().filter(f -> men.get(f).rank > i.rank).count();
                    i.phase = 3;
                    i.alarm = clock + (int) m * rules[2];
                    if (m * rules[2] == 0) {
                        phase(i);
                    }
                }
            } else if (i.phase == 3) {
                i.count++;
                group(i, 10 * i.count + i.number);
                i.state = 1;
                TreeSet<Integer> guests = new TreeSet<>(i.found);
                guests.addAll(i.up);
                guests.remove(i.number);
                for (int to : guests) {
                    send(i, to, 5, i.group, i.number, null);
                }
                i.up = new TreeSet<>(List.of(i.number));
                i.found.clear();
                i.heard.clear();
                i.phase = 4;
                i.alarm = clock + 2 * rules[1];
                i.tally[4]++;
            } else if (i.phase == 4) {
                i.state = 0;
                for (int to : i.up) {
                    if (to != i.number) {
                        send(i, to, 7, i.group, -1, i.up);
                    }
                }
                i.phase = 1;
                i.alarm = clock + rules[0];
            } else {
                alone(i);
            }
        }

        List<Integer> part(Man m) {
            List<Integer> part = new ArrayList<>();
            List<Integer> up = byRank(m.up);
            for (int k = 0; k < jobs && m.state == 0; k++) {
                if (up.get(k % up.size()) == m.number) {
                    part.add(k);
                }
            }
            return part;
        }

        List<Integer> byRank(TreeSet<Integer> set) {
            List<Integer> row = new ArrayList<>(set);
            row.sort(Comparator.comparing(k -> -men.get(k).rank));
            return row;
        }

        TreeSet<Integer> circle(Man m) {
            TreeSet<Integer> set = new TreeSet<>();
            for (Man o : men) {
                if (m.state == 0 && o.state == 0 && o.group == m.group) {
                    set.add(o.number);
                }
            }
            return set;
        }

        TreeSet<Integer> set(Man m) {
            TreeSet<Integer> set = new TreeSet<>();
            Deque<Man> open = new ArrayDeque<>();
            if (m.state != 2) {
                open.add(m);
            }
            while (!open.isEmpty()) {
                Man at = open.poll();
                if (set.add(at.number)) {
                    men.stream().filter(o -> o.state != 2 && !cut[o.number][at.number]).forEach(open::add);
                }
            }
            return set;
        }

        int circles() {
            TreeSet<Integer> groups = new TreeSet<>();
            men.stream().filter(m -> m.state == 0).forEach(m -> groups.add(m.group));
            return groups.size();
        }

        int sets() {
            return (int) men.stream().map(this::set).filter(s -> !s.isEmpty()).distinct().count();
        }

        boolean one() {
            return men.stream().filter(m -> m.state != 2)
                .allMatch(m -> m.state == 0 && circle(m).equals(set(m)) && m.up.equals(set(m)));
        }

        boolean sound() {
            for (Man m : men) {
                TreeSet<Integer> circle = circle(m);
                long own = circle.stream().filter(k -> men.get(k).chief == k).count();
                long chiefs = circle.stream().map(k -> men.get(k).chief).distinct().count();
                if (own > 1 || chiefs > 1) {
                    return false;
                }
            }
            return true;
        }

        int twice() {
            int sum = 0;
            for (int k = 0; k < jobs; k++) {
                sum += work(k) - most(k);
            }
            return sum;
        }

        int work(int k) {
            return men.stream().mapToInt(m -> m.work[k]).sum();
        }

        int most(int k) {
            return men.stream().mapToInt(m -> m.ledger[k]).max().getAsInt();
        }

        int holders(int k) {
            return men.stream().filter(m -> part(m).contains(k)).mapToInt(m -> 1 << m.number).sum();
        }

        int cutOff(int set) {
            int was = 0;
            for (int a = 0; a < men.size(); a++) {
                for (int b = 0; b < men.size(); b++) {
                    if ((set >> a & 1) == 1 && (set >> b & 1) == 0) {
                        was += cut[a][b] ? 0 : 1;
                        cut[a][b] = true;
                        cut[b][a] = true;
                    }
                }
            }
            return was;
        }

        int mend() {
            int was = 0;
            for (int a = 0; a < 8; a++) {
                for (int b = 0; b < 8; b++) {
                    was += a < b && cut[a][b] ? 1 : 0;
                    cut[a][b] = false;
                }
            }
            return was;
        }

        void turn(Man m) {
            if (m.state == 2) {
                alone(m);
            } else {
                m.state = 2;
                m.phase = 0;
            }
        }

        int until() {
            int t = 0;
            while (!one() && t < 301) {
                tick();
                t++;
            }
            return t == 301 ? -1 : t;
        }

        int run(int n) {
            int done = 0;
            for (int k = 0; k < n; k++) {
                done += tick();
            }
            return done;
        }
    }

    private Sight s;
    private final Deque<Sight> past = new ArrayDeque<>();
    private final List<Integer> tape = new ArrayList<>();
    private int faultPlace = -1;
    private final int[] refused = new int[3];

    Model() {
        s = anew(2, new int[] {2, 1}, 3, new int[] {8, 4, 3, 1});
    }

    private static Sight anew(int n, int[] ranks, int jobs, int[] rules) {
        Sight sight = new Sight();
        sight.jobs = jobs;
        sight.rules = rules;
        for (int i = 0; i < n; i++) {
            Man m = new Man();
            m.number = i;
            m.rank = ranks[i];
            sight.men.add(m);
            sight.alone(m);
        }
        sight.changes.clear();
        return sight;
    }

    private static int bits(TreeSet<Integer> set) {
        return set.stream().mapToInt(k -> 1 << k).sum();
    }

    private void arg(boolean fine) {
        if (!fine) {
            refused[1]++;
            throw new IllegalArgumentException();
        }
    }

    private void has(boolean fine) {
        if (!fine) {
            refused[0]++;
            throw new NoSuchElementException();
        }
    }

    private Man man(int i) {
        has(i >= 0 && i < s.men.size());
        return s.men.get(i);
    }

    private void keep() {
        past.push(s.copy());
        if (past.size() > 8) {
            past.removeLast();
        }
    }

    int feed(int... numbers) {
        if (tape.size() > 180) {
            return -1;
        }
        for (int number : numbers) {
            for (int k = 3; k >= 0; k--) {
                tape.add(number >> 8 * k & 255);
            }
        }
        return tape.size();
    }

    int text(int n) {
        arg(n >= 0 && n <= tape.size());
        StringBuilder text = new StringBuilder();
        for (int k = 0; k < n; k++) {
            text.append((char) (int) tape.get(k));
        }
        tape.clear();
        int[] fault = {0, -1};
        Sight made = parse(tokens(text.toString()), fault);
        faultPlace = fault[1];
        if (made == null) {
            return fault[0] - 10;
        }
        s = made;
        past.clear();
        return s.men.size();
    }

    private static List<Token> tokens(String text) {
        List<Token> row = new ArrayList<>();
        int at = 0;
        while (at < text.length()) {
            char c = text.charAt(at);
            char sort = sort(c);
            int end = at + 1;
            while ((sort == 'w' || sort == 'n') && end < text.length() && sort(text.charAt(end)) == sort) {
                end++;
            }
            if (c != ' ') {
                row.add(new Token(sort, text.substring(at, end), at));
            }
            at = end;
        }
        row.add(new Token('e', "", text.length()));
        return row;
    }

    private static char sort(char c) {
        return c >= 'a' && c <= 'z' ? 'w' : c >= '0' && c <= '9' ? 'n' : c == ';' ? ';' : '?';
    }

    private static Sight parse(List<Token> row, int[] fault) {
        List<String> words = List.of("every", "wait", "gap", "delay", "jobs", "ranks");
        int[] least = {1, 1, 0, 1, 1, 0};
        int[] most = {30, 30, 30, 3, 6, 99};
        int[][] told = new int[6][];
        if (!row.get(0).text.equals("members")) {
            return bad(fault, 1, row.get(0));
        }
        int[] n = new int[1];
        int kind = number(row.get(1), 2, 8, n);
        if (kind != 0) {
            return bad(fault, kind, row.get(1));
        }
        if (row.get(2).sort != ';') {
            return bad(fault, 1, row.get(2));
        }
        int at = 3;
        while (row.get(at).sort != 'e') {
            int w = words.indexOf(row.get(at).text);
            if (w < 0) {
                return bad(fault, 1, row.get(at));
            }
            if (told[w] != null) {
                return bad(fault, 4, row.get(at));
            }
            told[w] = new int[w == 5 ? n[0] : 1];
            at++;
            List<Integer> seen = new ArrayList<>();
            for (int k = 0; k < told[w].length; k++) {
                int[] v = new int[1];
                kind = number(row.get(at), least[w], most[w], v);
                if (kind == 0 && seen.contains(v[0])) {
                    kind = 3;
                }
                if (kind != 0) {
                    return bad(fault, kind, row.get(at));
                }
                seen.add(v[0]);
                told[w][k] = v[0];
                at++;
            }
            if (row.get(at).sort != ';') {
                return bad(fault, 1, row.get(at));
            }
            at++;
        }
        int[] rules = {8, 4, 3, 1};
        for (int k = 0; k < 4; k++) {
            rules[k] = told[k] == null ? rules[k] : told[k][0];
        }
        int[] ranks = new int[n[0]];
        for (int k = 0; k < n[0]; k++) {
            ranks[k] = told[5] == null ? n[0] - k : told[5][k];
        }
        return anew(n[0], ranks, told[4] == null ? 3 : told[4][0], rules);
    }

    private static int number(Token token, int least, int most, int[] into) {
        if (token.sort != 'n') {
            return 1;
        }
        java.math.BigInteger v = new java.math.BigInteger(token.text);
        if (v.compareTo(java.math.BigInteger.valueOf(least)) < 0
            || v.compareTo(java.math.BigInteger.valueOf(most)) > 0) {
            return 2;
        }
        into[0] = v.intValue();
        return 0;
    }

    private static Sight bad(int[] fault, int kind, Token token) {
        fault[0] = kind;
        fault[1] = token.place;
        return null;
    }

    private boolean ruleFits(int what, int v) {
        return switch (what) {
            case 0, 1 -> v >= 1 && v <= 30;
            case 2 -> v >= 0 && v <= 30;
            case 3 -> v >= 1 && v <= 3;
            default -> false;
        };
    }

    private int told(int what) {
        arg(what >= 0 && what <= 18);
        int[] parts = new int[3];
        for (int k = 0; k < s.jobs; k++) {
            parts[Math.min(2, Integer.bitCount(s.holders(k)))]++;
        }
        int[] all = {s.men.size(), s.jobs, s.rules[0], s.rules[1], s.rules[2], s.rules[3], s.clock, s.notes.size(),
            s.lost, s.circles(), s.sets(), s.one() ? 1 : 0, s.sound() ? 1 : 0, s.twice(), past.size(), tape.size(),
            Math.min(40, s.changes.size()), parts[2], parts[0]};
        return all[what];
    }

    private int member(int i, int what) {
        Man m = man(i);
        arg(what >= 0 && what <= 12);
        int part = s.part(m).stream().mapToInt(k -> 1 << k).sum();
        int[] all = {m.rank, m.state, m.chief, m.count, m.group, bits(m.up), bits(m.found), m.phase,
            m.phase == 0 ? 0 : m.alarm - s.clock, part, bits(s.set(m)), bits(s.circle(m)), bits(m.heard)};
        return all[what];
    }

    private int letter(int k, int what) {
        has(k >= 0 && k < s.notes.size());
        arg(what >= 0 && what <= 6);
        Note t = s.notes.get(k);
        int[] all = {t.from, t.to, t.kind, t.due - s.clock, t.group, t.man, t.up == null ? -1 : bits(t.up)};
        return all[what];
    }

    private int ranked(int i, int k) {
        List<Integer> row = s.byRank(s.circle(man(i)));
        return k >= 0 && k < row.size() ? row.get(k) : -1;
    }

    private int hardest(int what) {
        arg(what == 0 || what == 1);
        int best = -1;
        int most = -1;
        for (Man m : s.men) {
            if (m.state != 2) {
                Sight t = s.copy();
                t.turn(t.men.get(m.number));
                int time = t.until();
                int worth = time < 0 ? 1000 : time;
                if (worth > most) {
                    most = worth;
                    best = m.number;
                }
            }
        }
        return what == 0 ? best : most == 1000 ? -1 : most;
    }

    private int ahead(int n, int what) {
        arg(n >= 1 && n <= 100 && what >= 0 && what <= 4);
        Sight t = s.copy();
        int done = t.run(n);
        int[] votes = new int[8];
        t.men.stream().filter(m -> m.state == 0).forEach(m -> votes[m.chief]++);
        int best = -1;
        for (int k = 7; k >= 0; k--) {
            if (votes[k] > 0 && (best < 0 || votes[k] >= votes[best])) {
                best = k;
            }
        }
        return new int[] {t.circles(), t.twice(), t.lost, done, best}[what];
    }

    private int storms(int n, int seed, int what) {
        arg(n >= 1 && n <= 20 && what >= 0 && what <= 2);
        int[] all = new int[3];
        for (int k = 0; k < n; k++) {
            long[] x = {seed + k};
            Sight t = s.copy();
            for (int b = 0; b < 8; b++) {
                int blow = draw(x, 4);
                if (blow == 0) {
                    t.turn(t.men.get(draw(x, t.men.size())));
                } else if (blow == 1) {
                    t.cutOff(draw(x, 1 << t.men.size()));
                } else {
                    t.mend();
                }
                t.run(draw(x, 12) + 1);
            }
            t.mend();
            t.men.stream().filter(m -> m.state == 2).forEach(t::alone);
            int time = t.until();
            all[0] += time < 0 ? 0 : 1;
            all[1] = Math.max(all[1], time);
            all[2] += Math.max(0, time);
        }
        return all[what];
    }

    private static int draw(long[] x, int m) {
        x[0] = (x[0] * 1103515245L + 12345L) & 0xffffffffL;
        return (int) (x[0] >> 16) % m;
    }

    private long print() {
        long p = 0;
        for (Man m : s.men) {
            for (int v : new int[] {m.group, bits(m.up), m.phase}) {
                p = p * 31 + v;
            }
        }
        return p;
    }

    private long act(String name, int[] a) {
        switch (name) {
            case "ticks":
                arg(a[0] >= 1 && a[0] <= 100);
                keep();
                return s.run(a[0]);
            case "cut":
                arg(a[0] >= 0 && a[0] < 1 << s.men.size());
                keep();
                return s.cutOff(a[0]);
            case "heal":
                keep();
                return s.mend();
            case "rule":
                arg(ruleFits(a[0], a[1]));
                keep();
                int was = s.rules[a[0]];
                s.rules[a[0]] = a[1];
                return was;
            case "undo":
                if (past.isEmpty()) {
                    return -1;
                }
                s = past.pop();
                return past.size();
            default:
                boolean rises = name.equals("rise");
                if (man(a[0]).state == 2 != rises) {
                    refused[2]++;
                    throw new IllegalStateException();
                }
                keep();
                s.turn(man(a[0]));
                return rises ? man(a[0]).group : s.notes.stream().filter(t -> t.to == a[0]).count();
        }
    }

    private long paper(String name, int[] a) {
        Sight t = s.copy();
        switch (name) {
            case "untilBy":
                man(a[0]);
                t.turn(t.men.get(a[0]));
                break;
            case "untilRule":
                arg(ruleFits(a[0], a[1]));
                t.rules[a[0]] = a[1];
                break;
            case "untilLinks":
                arg(a[0] == 0 || a[0] == 1 && a[1] >= 0 && a[1] < 1 << s.men.size());
                if (a[0] == 0) {
                    t.mend();
                } else {
                    t.cutOff(a[1]);
                }
                break;
            default:
                break;
        }
        return t.until();
    }

    /** What a call of the face is to answer; a boolean counts 1 or 0. */
    long call(String name, int... a) {
        switch (name) {
            case "feed": return feed(a);
            case "text": return text(a[0]);
            case "fault": return faultPlace;
            case "told": return told(a[0]);
            case "member": return member(a[0], a[1]);
            case "units":
                man(a[0]);
                has(a[1] >= 0 && a[1] < s.jobs);
                arg(a[2] == 0 || a[2] == 1);
                return a[2] == 0 ? man(a[0]).ledger[a[1]] : man(a[0]).work[a[1]];
            case "job":
                has(a[0] >= 0 && a[0] < s.jobs);
                arg(a[1] >= 0 && a[1] <= 3);
                int least = s.men.stream().mapToInt(m -> m.ledger[a[0]]).min().getAsInt();
                return new int[] {s.work(a[0]), s.most(a[0]), least, s.holders(a[0])}[a[1]];
            case "link":
                man(a[0]);
                man(a[1]);
                arg(a[0] != a[1]);
                return s.cut[a[0]][a[1]] ? 0 : 1;
            case "letter": return letter(a[0], a[1]);
            case "sent":
                arg(a[0] >= 0 && a[0] <= 7 && (a[1] == 0 || a[1] == 1));
                return a[1] == 0 ? s.sent[a[0]] : s.handled[a[0]];
            case "tally":
                man(a[0]);
                arg(a[1] >= 0 && a[1] <= 6);
                return man(a[0]).tally[a[1]];
            case "change":
                int told = Math.min(40, s.changes.size());
                has(a[0] >= 0 && a[0] < told);
                arg(a[1] >= 0 && a[1] <= 3);
                return s.changes.get(s.changes.size() - told + a[0])[a[1]];
            case "chiefs":
                return s.men.stream().filter(m -> m.state == 0 && m.chief == m.number).mapToInt(m -> 1 << m.number).sum();
            case "ranked": return ranked(a[0], a[1]);
            case "until":
            case "untilBy":
            case "untilRule":
            case "untilLinks": return paper(name, a);
            case "hardest": return hardest(a[0]);
            case "ahead": return ahead(a[0], a[1]);
            case "storms": return storms(a[0], a[1], a[2]);
            case "print": return print();
            case "status": return a[0] >= 0 && a[0] <= 2 ? refused[a[0]] : -1;
            default: return act(name, a);
        }
    }
}

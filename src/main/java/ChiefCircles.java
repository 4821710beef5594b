import java.util.Arrays;
import java.util.NoSuchElementException;

/** Members that find one chief; ../shared/DOC.md says what each call promises. */
public final class ChiefCircles {
    public static final int NONE = -1;

    private static final int MOST_MEMBERS = 8;
    private static final int MOST_JOBS = 6;
    private static final int MOST_LETTERS = 300;
    private static final int MOST_CHANGES = 40;
    private static final int MOST_PAST = 8;
    private static final int TAPE_BYTES = 200;
    private static final int MOST_TICKS = 100;
    private static final int FAR_TICKS = 300;
    private static final int MOST_SEEDS = 20;

    private static final int NORMAL = 0;
    private static final int ELECTING = 1;
    private static final int DOWN = 2;

    /** Phases, named by what the member waits for. */
    private static final int OUT = 0;
    private static final int QUIET = 1;
    private static final int ASKING = 2;
    private static final int YIELDING = 3;
    private static final int GATHERING = 4;
    private static final int CHECKING = 5;
    private static final int JOINING = 6;

    private static final int EVERY = 0;
    private static final int WAIT = 1;
    private static final int GAP = 2;
    private static final int DELAY = 3;
    private static final int RULES = 4;
    private static final int[] LEAST_RULE = {1, 1, 0, 1};
    private static final int[] GREATEST_RULE = {30, 30, 30, 3};

    private static final int ASK = 0;
    private static final int CHIEF = 1;
    private static final int THERE = 2;
    private static final int YES = 3;
    private static final int NO = 4;
    private static final int INVITE = 5;
    private static final int ACCEPT = 6;
    private static final int READY = 7;
    private static final int KINDS = 8;

    /** A letter's row: these fields, then a ledger. */
    private static final int FROM = 0;
    private static final int TO = 1;
    private static final int KIND = 2;
    private static final int DUE = 3;
    private static final int GROUP = 4;
    private static final int EXTRA = 5;
    private static final int LEDGER = 6;
    private static final int LETTER_WIDTH = LEDGER + MOST_JOBS;

    private static final int CHANGE_WIDTH = 4;

    private static final int TALLY_ALONE = 3;
    private static final int TALLY_MERGED = 4;
    private static final int TALLY_INVITED = 5;
    private static final int TALLY_READY = 6;
    private static final int TALLIES = 7;

    private static final int NO_SUCH = 0;
    private static final int ARGUMENT = 1;
    private static final int STATE = 2;

    private final int[] tape = new int[TAPE_BYTES];
    private int tapeBytes;
    private int faultPlace = NONE;
    private final int[] refused = new int[3];
    private final TextReader reader = new TextReader();
    private World now = new World();
    private final World paper = new World();
    private final World[] past = new World[MOST_PAST];
    private int pastNext;
    private int pastCount;
    private final Draws draws = new Draws();

    public ChiefCircles() {
        for (int k = 0; k < MOST_PAST; k++) {
            past[k] = new World();
        }
        Setup setup = new Setup();
        setup.plain(2);
        now.begin(setup);
    }

    public int feed(int a, int b, int c, int d, int e) {
        if (tapeBytes + 20 > TAPE_BYTES) {
            return NONE;
        }
        feedNumber(a);
        feedNumber(b);
        feedNumber(c);
        feedNumber(d);
        feedNumber(e);
        return tapeBytes;
    }

    private void feedNumber(int number) {
        for (int shift = 24; shift >= 0 && tapeBytes < TAPE_BYTES; shift -= 8) {
            tape[tapeBytes] = (number >>> shift) & 255;
            tapeBytes++;
        }
    }

    public int text(int n) throws IllegalArgumentException {
        needArgument(n >= 0 && n <= tapeBytes);
        tapeBytes = 0;
        if (!reader.accepts(tape, n)) {
            faultPlace = reader.faultPlace;
            return reader.faultKind - 10;
        }
        faultPlace = NONE;
        pastCount = 0;
        now.begin(reader.setup);
        return now.members;
    }

    public int fault() {
        return faultPlace;
    }

    // ---- ACTS

    public int ticks(int n) throws IllegalArgumentException {
        needArgument(n >= 1 && n <= MOST_TICKS);
        keepPast();
        return now.run(n);
    }

    public int cut(int set) throws IllegalArgumentException {
        needArgument(now.isSet(set));
        keepPast();
        return now.sever(set);
    }

    public int heal() {
        keepPast();
        return now.mend();
    }

    public int fall(int member) throws NoSuchElementException, IllegalStateException {
        needMember(member);
        needState(now.member[member].state != DOWN);
        keepPast();
        now.drop(member);
        return now.mail.underWayTo(member);
    }

    public int rise(int member) throws NoSuchElementException, IllegalStateException {
        needMember(member);
        needState(now.member[member].state == DOWN);
        keepPast();
        now.goAlone(now.member[member]);
        return now.member[member].group;
    }

    public int rule(int what, int v) throws IllegalArgumentException {
        needArgument(isRule(what, v));
        keepPast();
        int before = now.rules[what];
        now.rules[what] = v;
        return before;
    }

    public int undo() {
        if (pastCount == 0) {
            return NONE;
        }
        pastCount--;
        pastNext = (pastNext + MOST_PAST - 1) % MOST_PAST;
        World latest = past[pastNext];
        past[pastNext] = now;
        now = latest;
        return pastCount;
    }

    private void keepPast() {
        past[pastNext].copyFrom(now);
        pastNext = (pastNext + 1) % MOST_PAST;
        if (pastCount < MOST_PAST) {
            pastCount++;
        }
    }

    // ---- what there is

    public int told(int what) throws IllegalArgumentException {
        needArgument(what >= 0 && what <= 18);
        switch (what) {
            case 0: return now.members;
            case 1: return now.jobs;
            case 6: return now.clock;
            case 7: return now.mail.size;
            case 8: return now.mail.lost;
            case 9: return Survey.circles(now);
            case 10: return Survey.sets(now);
            case 11: return Survey.isOne(now) ? 1 : 0;
            case 12: return Survey.isSound(now) ? 1 : 0;
            case 13: return Survey.twice(now);
            case 14: return pastCount;
            case 15: return tapeBytes;
            case 16: return now.changesTold();
            case 17: return Survey.jobsHeldBy(now, 2, MOST_MEMBERS);
            case 18: return Survey.jobsHeldBy(now, 0, 0);
            default: return now.rules[what - 2];
        }
    }

    public int member(int member, int what) throws NoSuchElementException, IllegalArgumentException {
        needMember(member);
        needArgument(what >= 0 && what <= 12);
        Member m = now.member[member];
        switch (what) {
            case 0: return m.rank;
            case 1: return m.state;
            case 2: return m.chief;
            case 3: return m.count;
            case 4: return m.group;
            case 5: return m.up;
            case 6: return m.found;
            case 7: return m.phase;
            case 8: return m.phase == OUT ? 0 : m.alarm - now.clock;
            case 9: return now.partOf(m);
            case 10: return Survey.setOf(now, member);
            case 11: return Survey.circleOf(now, member);
            default: return m.heard;
        }
    }

    public int units(int member, int job, int what) throws NoSuchElementException, IllegalArgumentException {
        needMember(member);
        needJob(job);
        needArgument(what == 0 || what == 1);
        Member m = now.member[member];
        return what == 0 ? m.ledger[job] : m.work[job];
    }

    public int job(int job, int what) throws NoSuchElementException, IllegalArgumentException {
        needJob(job);
        needArgument(what >= 0 && what <= 3);
        switch (what) {
            case 0: return Survey.workOf(now, job);
            case 1: return Survey.greatestLedger(now, job);
            case 2: return Survey.leastLedger(now, job);
            default: return Survey.holdersOf(now, job);
        }
    }

    public boolean link(int a, int b) throws NoSuchElementException, IllegalArgumentException {
        needMember(a);
        needMember(b);
        needArgument(a != b);
        return (now.whole[a] & 1 << b) != 0;
    }

    public int letter(int k, int what) throws NoSuchElementException, IllegalArgumentException {
        needElement(k >= 0 && k < now.mail.size);
        needArgument(what >= 0 && what <= 6);
        int kind = now.mail.field(k, KIND);
        switch (what) {
            case 0: return now.mail.field(k, FROM);
            case 1: return now.mail.field(k, TO);
            case 2: return kind;
            case 3: return now.mail.field(k, DUE) - now.clock;
            case 4: return now.mail.field(k, GROUP);
            case 5: return kind == INVITE ? now.mail.field(k, EXTRA) : NONE;
            default: return kind == READY ? now.mail.field(k, EXTRA) : NONE;
        }
    }

    public int sent(int kind, int what) throws IllegalArgumentException {
        needArgument(kind >= 0 && kind < KINDS && (what == 0 || what == 1));
        return what == 0 ? now.mail.sentOf[kind] : now.mail.handledOf[kind];
    }

    public int tally(int member, int what) throws NoSuchElementException, IllegalArgumentException {
        needMember(member);
        needArgument(what >= 0 && what < TALLIES);
        return now.member[member].tallies[what];
    }

    public int change(int k, int what) throws NoSuchElementException, IllegalArgumentException {
        needElement(k >= 0 && k < now.changesTold());
        needArgument(what >= 0 && what < CHANGE_WIDTH);
        return now.changeField(k, what);
    }

    public int chiefs() {
        return Survey.leaders(now);
    }

    public int ranked(int member, int k) throws NoSuchElementException {
        needMember(member);
        return Survey.atPlace(now, Survey.circleOf(now, member), k);
    }

    // ---- on paper

    public int until() {
        paper.copyFrom(now);
        return untilOne(paper);
    }

    public int untilBy(int member) throws NoSuchElementException {
        needMember(member);
        paper.copyFrom(now);
        paper.turn(member);
        return untilOne(paper);
    }

    public int hardest(int what) throws IllegalArgumentException {
        needArgument(what == 0 || what == 1);
        int worst = NONE;
        int longest = NONE;
        for (int i = 0; i < now.members; i++) {
            if (now.member[i].state != DOWN) {
                paper.copyFrom(now);
                paper.drop(i);
                int time = untilOne(paper);
                if (worst == NONE || isLonger(time, longest)) {
                    worst = i;
                    longest = time;
                }
            }
        }
        return what == 0 ? worst : longest;
    }

    private static boolean isLonger(int time, int other) {
        return other != NONE && (time == NONE || time > other);
    }

    public int untilRule(int what, int v) throws IllegalArgumentException {
        needArgument(isRule(what, v));
        paper.copyFrom(now);
        paper.rules[what] = v;
        return untilOne(paper);
    }

    public int untilLinks(int what, int set) throws IllegalArgumentException {
        needArgument(what == 0 || what == 1 && now.isSet(set));
        paper.copyFrom(now);
        if (what == 0) {
            paper.mend();
        } else {
            paper.sever(set);
        }
        return untilOne(paper);
    }

    public int ahead(int n, int what) throws IllegalArgumentException {
        needArgument(n >= 1 && n <= MOST_TICKS && what >= 0 && what <= 4);
        paper.copyFrom(now);
        int handled = paper.run(n);
        switch (what) {
            case 0: return Survey.circles(paper);
            case 1: return Survey.twice(paper);
            case 2: return paper.mail.lost;
            case 3: return handled;
            default: return Survey.chiefOfMost(paper);
        }
    }

    public int storms(int n, int seed, int what) throws IllegalArgumentException {
        needArgument(n >= 1 && n <= MOST_SEEDS && what >= 0 && what <= 2);
        int ended = 0;
        int longest = 0;
        int sum = 0;
        for (int k = 0; k < n; k++) {
            draws.x = seed + k;
            paper.copyFrom(now);
            storm(paper, draws);
            int time = untilOne(paper);
            if (time != NONE) {
                ended++;
                longest = Math.max(longest, time);
                sum += time;
            }
        }
        return what == 0 ? ended : what == 1 ? longest : sum;
    }

    private static void storm(World world, Draws draws) {
        for (int k = 0; k < 8; k++) {
            int blow = draws.next(4);
            if (blow == 0) {
                world.turn(draws.next(world.members));
            } else if (blow == 1) {
                world.sever(draws.next(1 << world.members));
            } else {
                world.mend();
            }
            for (int left = draws.next(12) + 1; left > 0; left--) {
                world.exchange();
            }
        }
        world.mend();
        for (int i = 0; i < world.members; i++) {
            if (world.member[i].state == DOWN) {
                world.goAlone(world.member[i]);
            }
        }
    }

    private static int untilOne(World world) {
        for (int time = 0; time <= FAR_TICKS; time++) {
            if (time > 0) {
                world.exchange();
            }
            if (Survey.isOne(world)) {
                return time;
            }
        }
        return NONE;
    }

    public long print() {
        long sum = 0;
        for (int i = 0; i < now.members; i++) {
            Member m = now.member[i];
            sum = 31 * sum + m.group;
            sum = 31 * sum + m.up;
            sum = 31 * sum + m.phase;
        }
        return sum;
    }

    public int status(int what) {
        return what >= 0 && what < refused.length ? refused[what] : NONE;
    }

    // ---- refusals

    private void needMember(int member) {
        needElement(member >= 0 && member < now.members);
    }

    private void needJob(int job) {
        needElement(job >= 0 && job < now.jobs);
    }

    private void needElement(boolean there) {
        if (!there) {
            refused[NO_SUCH]++;
            throw new NoSuchElementException("there is no such one");
        }
    }

    private void needArgument(boolean fits) {
        if (!fits) {
            refused[ARGUMENT]++;
            throw new IllegalArgumentException("an argument is none such");
        }
    }

    private void needState(boolean fits) {
        if (!fits) {
            refused[STATE]++;
            throw new IllegalStateException("the member's state forbids it");
        }
    }

    private static boolean isRule(int what, int v) {
        return what >= 0 && what < RULES && v >= LEAST_RULE[what] && v <= GREATEST_RULE[what];
    }

    /** What a TEXT tells, or what stands without being told. */
    private static final class Setup {
        int members;
        int jobs;
        final int[] rules = new int[RULES];
        final int[] ranks = new int[MOST_MEMBERS];

        void plain(int members) {
            this.members = members;
            jobs = 3;
            rules[EVERY] = 8;
            rules[WAIT] = 4;
            rules[GAP] = 3;
            rules[DELAY] = 1;
            for (int i = 0; i < MOST_MEMBERS; i++) {
                ranks[i] = members - i;
            }
        }
    }

    /** Reads a TEXT from left to right and stops at the first FAULT. */
    private static final class TextReader {
        private static final int CANNOT_STAND = 1;
        private static final int NO_SUCH_NUMBER = 2;
        private static final int RANK_AGAIN = 3;
        private static final int LINE_AGAIN = 4;
        private static final int GREATEST_RANK = 99;
        /** Above every number that may be told, so that long ones do not go round. */
        private static final int TOO_GREAT = 1000;
        private static final int RANKS_LINE = 0;
        private static final int JOBS_LINE = 1;
        private static final int FIRST_RULE_LINE = 2;

        final Setup setup = new Setup();
        int faultKind;
        int faultPlace;
        private int[] bytes = new int[0];
        private int length;
        private int at;
        private int number;
        private int numberPlace;
        private int linesTold;

        boolean accepts(int[] source, int sourceLength) {
            bytes = source;
            length = Math.min(sourceLength, source.length);
            at = 0;
            linesTold = 0;
            if (!takeHead()) {
                return false;
            }
            skipBlanks();
            for (int line = 0; line < length && at < length; line++) {
                if (!takeLine() || !takeEnd()) {
                    return false;
                }
                skipBlanks();
            }
            return true;
        }

        private boolean takeHead() {
            skipBlanks();
            int end = wordEnd();
            if (!isWord("members", end)) {
                return fails(CANNOT_STAND, at);
            }
            at = end;
            if (!takeNumber(2, MOST_MEMBERS)) {
                return false;
            }
            setup.plain(number);
            return takeEnd();
        }

        private boolean takeLine() {
            int end = wordEnd();
            int line = lineOf(end);
            if (line == NONE) {
                return fails(CANNOT_STAND, at);
            }
            if ((linesTold & 1 << line) != 0) {
                return fails(LINE_AGAIN, at);
            }
            linesTold |= 1 << line;
            at = end;
            if (line == RANKS_LINE) {
                return takeRanks();
            }
            if (line == JOBS_LINE) {
                boolean taken = takeNumber(1, MOST_JOBS);
                setup.jobs = number;
                return taken;
            }
            return takeRule(line - FIRST_RULE_LINE);
        }

        private boolean takeRule(int rule) {
            if (rule < 0 || rule >= RULES || !takeNumber(LEAST_RULE[rule], GREATEST_RULE[rule])) {
                return false;
            }
            setup.rules[rule] = number;
            return true;
        }

        private boolean takeRanks() {
            for (int i = 0; i < setup.members; i++) {
                if (!takeNumber(0, GREATEST_RANK)) {
                    return false;
                }
                for (int j = 0; j < i; j++) {
                    if (setup.ranks[j] == number) {
                        return fails(RANK_AGAIN, numberPlace);
                    }
                }
                setup.ranks[i] = number;
            }
            return true;
        }

        private boolean takeNumber(int least, int greatest) {
            skipBlanks();
            numberPlace = at;
            number = 0;
            while (at < length && isDigit(at)) {
                number = Math.min(TOO_GREAT, 10 * number + bytes[at] - '0');
                at++;
            }
            if (at == numberPlace) {
                return fails(CANNOT_STAND, at);
            }
            return number >= least && number <= greatest || fails(NO_SUCH_NUMBER, numberPlace);
        }

        private boolean takeEnd() {
            skipBlanks();
            if (at >= length || bytes[at] != ';') {
                return fails(CANNOT_STAND, at);
            }
            at++;
            return true;
        }

        private void skipBlanks() {
            while (at < length && bytes[at] == ' ') {
                at++;
            }
        }

        private int wordEnd() {
            int end = at;
            while (end < length && bytes[end] >= 'a' && bytes[end] <= 'z') {
                end++;
            }
            return end;
        }

        private int lineOf(int end) {
            if (isWord("ranks", end)) {
                return RANKS_LINE;
            }
            if (isWord("jobs", end)) {
                return JOBS_LINE;
            }
            if (isWord("every", end)) {
                return FIRST_RULE_LINE + EVERY;
            }
            if (isWord("wait", end)) {
                return FIRST_RULE_LINE + WAIT;
            }
            if (isWord("gap", end)) {
                return FIRST_RULE_LINE + GAP;
            }
            return isWord("delay", end) ? FIRST_RULE_LINE + DELAY : NONE;
        }

        private boolean isWord(String word, int end) {
            if (end - at != word.length()) {
                return false;
            }
            for (int k = 0; k < word.length(); k++) {
                if (bytes[at + k] != word.charAt(k)) {
                    return false;
                }
            }
            return true;
        }

        private boolean isDigit(int place) {
            return bytes[place] >= '0' && bytes[place] <= '9';
        }

        private boolean fails(int kind, int place) {
            faultKind = kind;
            faultPlace = place;
            return false;
        }
    }

    /** One draw after another from a SEED. */
    private static final class Draws {
        int x;

        int next(int bound) {
            x = 1103515245 * x + 12345;
            return bound > 0 ? (x >>> 16) % bound : 0;
        }
    }

    /** What one member holds; sets of members are bits. */
    private static final class Member {
        final int number;
        int rank;
        /** Members of a greater rank: kept so that places need no sorting. */
        int above;
        int state;
        int chief;
        int count;
        int group;
        int up;
        int found;
        int heard;
        int phase;
        int alarm;
        final int[] ledger = new int[MOST_JOBS];
        final int[] work = new int[MOST_JOBS];
        final int[] tallies = new int[TALLIES];

        Member(int number) {
            this.number = number;
        }

        void wipe() {
            count = 0;
            group = 0;
            Arrays.fill(ledger, 0);
            Arrays.fill(work, 0);
            Arrays.fill(tallies, 0);
        }

        void copyFrom(Member other) {
            rank = other.rank;
            above = other.above;
            state = other.state;
            chief = other.chief;
            count = other.count;
            group = other.group;
            up = other.up;
            found = other.found;
            heard = other.heard;
            phase = other.phase;
            alarm = other.alarm;
            System.arraycopy(other.ledger, 0, ledger, 0, MOST_JOBS);
            System.arraycopy(other.work, 0, work, 0, MOST_JOBS);
            System.arraycopy(other.tallies, 0, tallies, 0, TALLIES);
        }

        boolean leads() {
            return state == NORMAL && chief == number;
        }

        int bit() {
            return 1 << number;
        }

        void standAlone() {
            up = bit();
            found = 0;
            heard = 0;
        }
    }

    /** Letters in the order of their sending, and what became of all that were sent. */
    private static final class Mail {
        /** Twice the limit: those that have come keep their rows until the tick's letters are through. */
        final int[] rows = new int[2 * MOST_LETTERS * LETTER_WIDTH];
        int size;
        /** How many of these rows have come in this tick, and are under way no more. */
        int come;
        int lost;
        final int[] sentOf = new int[KINDS];
        final int[] handledOf = new int[KINDS];

        void wipe() {
            size = 0;
            come = 0;
            lost = 0;
            Arrays.fill(sentOf, 0);
            Arrays.fill(handledOf, 0);
        }

        void copyFrom(Mail other) {
            System.arraycopy(other.rows, 0, rows, 0, other.size * LETTER_WIDTH);
            size = other.size;
            come = other.come;
            lost = other.lost;
            System.arraycopy(other.sentOf, 0, sentOf, 0, KINDS);
            System.arraycopy(other.handledOf, 0, handledOf, 0, KINDS);
        }

        int field(int k, int field) {
            return rows[k * LETTER_WIDTH + field];
        }

        void add(Member from, int to, int kind, int due, int group, int extra) {
            sentOf[kind]++;
            if (size - come >= MOST_LETTERS || size >= 2 * MOST_LETTERS) {
                lost++;
                return;
            }
            int row = size * LETTER_WIDTH;
            rows[row + FROM] = from.number;
            rows[row + TO] = to;
            rows[row + KIND] = kind;
            rows[row + DUE] = due;
            rows[row + GROUP] = group;
            rows[row + EXTRA] = extra;
            for (int job = 0; job < MOST_JOBS; job++) {
                rows[row + LEDGER + job] = from.ledger[job];
            }
            size++;
        }

        void dropDue(int clock) {
            if (come == 0) {
                return;
            }
            int kept = 0;
            for (int k = 0; k < size; k++) {
                if (field(k, DUE) != clock) {
                    if (kept < k) {
                        System.arraycopy(rows, k * LETTER_WIDTH, rows, kept * LETTER_WIDTH, LETTER_WIDTH);
                    }
                    kept++;
                }
            }
            size = kept;
            come = 0;
        }

        int underWayTo(int member) {
            int found = 0;
            for (int k = 0; k < size; k++) {
                if (field(k, TO) == member) {
                    found++;
                }
            }
            return found;
        }
    }

    /** All that goes on: the members, their links and letters, and the clock. */
    private static final class World {
        int members;
        int jobs;
        int clock;
        final int[] rules = new int[RULES];
        /** Of each member those to which its link is whole. */
        final int[] whole = new int[MOST_MEMBERS];
        final Member[] member = new Member[MOST_MEMBERS];
        final Mail mail = new Mail();
        private final int[] changes = new int[MOST_CHANGES * CHANGE_WIDTH];
        private int changed;

        World() {
            for (int i = 0; i < MOST_MEMBERS; i++) {
                member[i] = new Member(i);
            }
        }

        void begin(Setup setup) {
            members = setup.members;
            jobs = setup.jobs;
            clock = 0;
            System.arraycopy(setup.rules, 0, rules, 0, RULES);
            mail.wipe();
            mend();
            for (int i = 0; i < members; i++) {
                Member m = member[i];
                m.rank = setup.ranks[i];
                m.above = 0;
                for (int j = 0; j < members; j++) {
                    if (setup.ranks[j] > m.rank) {
                        m.above |= 1 << j;
                    }
                }
                m.wipe();
                goAlone(m);
            }
            changed = 0;
        }

        void copyFrom(World other) {
            members = other.members;
            jobs = other.jobs;
            clock = other.clock;
            changed = other.changed;
            System.arraycopy(other.rules, 0, rules, 0, RULES);
            System.arraycopy(other.whole, 0, whole, 0, MOST_MEMBERS);
            System.arraycopy(other.changes, 0, changes, 0, changes.length);
            mail.copyFrom(other.mail);
            for (int i = 0; i < members; i++) {
                member[i].copyFrom(other.member[i]);
            }
        }

        int all() {
            return (1 << members) - 1;
        }

        boolean isSet(int set) {
            return (set & ~all()) == 0;
        }

        int sever(int set) {
            int wholeAhead = 0;
            int others = all() & ~set;
            for (int i = 0; i < members; i++) {
                if ((set & 1 << i) != 0) {
                    wholeAhead += Integer.bitCount(whole[i] & others);
                    whole[i] &= ~others;
                } else {
                    whole[i] &= ~set;
                }
            }
            return wholeAhead;
        }

        int mend() {
            int ends = 0;
            for (int i = 0; i < members; i++) {
                int others = all() & ~(1 << i);
                ends += Integer.bitCount(others & ~whole[i]);
                whole[i] = others;
            }
            return ends / 2;
        }

        void drop(int i) {
            member[i].state = DOWN;
            member[i].phase = OUT;
        }

        void turn(int i) {
            if (member[i].state == DOWN) {
                goAlone(member[i]);
            } else {
                drop(i);
            }
        }

        int run(int ticks) {
            int handled = 0;
            for (int k = 0; k < ticks; k++) {
                handled += exchange();
                toil();
            }
            return handled;
        }

        private void toil() {
            for (int i = 0; i < members; i++) {
                labour(member[i]);
                member[i].tallies[member[i].state]++;
            }
        }

        /** A tick without its units and tallies: these sway no letter, so who asks for ONE alone can spare them. */
        int exchange() {
            clock++;
            int handled = 0;
            int earlier = mail.size;
            for (int k = 0; k < earlier; k++) {
                if (mail.field(k, DUE) == clock) {
                    mail.come++;
                    if (arrives(k)) {
                        handle(k);
                        handled++;
                    } else {
                        mail.lost++;
                    }
                }
            }
            mail.dropDue(clock);
            for (int i = 0; i < members; i++) {
                if (member[i].state != DOWN && member[i].alarm == clock) {
                    wake(member[i]);
                }
            }
            return handled;
        }

        private boolean arrives(int k) {
            int to = mail.field(k, TO);
            return member[to].state != DOWN && (whole[to] & 1 << mail.field(k, FROM)) != 0;
        }

        private void handle(int k) {
            Member i = member[mail.field(k, TO)];
            int from = mail.field(k, FROM);
            int group = mail.field(k, GROUP);
            int kind = mail.field(k, KIND);
            mail.handledOf[kind]++;
            switch (kind) {
                case ASK:
                    onAsk(i, from, group);
                    break;
                case CHIEF:
                    if (i.phase == ASKING) {
                        i.found |= 1 << from;
                    }
                    break;
                case THERE:
                    onThere(i, from, group);
                    break;
                case YES:
                    onYes(i, from, group);
                    break;
                case NO:
                    if (i.phase == CHECKING && i.chief == from) {
                        goAlone(i);
                    }
                    break;
                case INVITE:
                    onInvite(i, mail.field(k, EXTRA), group);
                    break;
                case ACCEPT:
                    if (i.phase == GATHERING && i.group == group) {
                        i.up |= 1 << from;
                        learn(i, k);
                    }
                    break;
                default:
                    onReady(i, k);
                    break;
            }
        }

        private void onAsk(Member i, int from, int group) {
            if (i.leads()) {
                send(i, from, CHIEF, NONE, NONE);
            } else if (i.state == NORMAL && i.chief == from && i.group == group) {
                send(i, from, YES, group, NONE);
            }
        }

        private void onThere(Member i, int from, int group) {
            if (i.leads() && i.group == group && (i.up & 1 << from) != 0) {
                send(i, from, YES, group, NONE);
            } else {
                send(i, from, NO, NONE, NONE);
            }
        }

        private void onYes(Member i, int from, int group) {
            if (i.group != group) {
                return;
            }
            if (i.phase == CHECKING && i.chief == from) {
                await(i, QUIET, rules[EVERY]);
            } else if (i.phase == ASKING) {
                i.heard |= 1 << from;
            }
        }

        private void onInvite(Member i, int chief, int group) {
            if (i.state != NORMAL || i.number == chief) {
                return;
            }
            if (i.leads()) {
                sendToAll(i, i.up & ~(1 << chief), INVITE, group, chief);
            }
            i.state = ELECTING;
            i.chief = chief;
            regroup(i, group);
            i.standAlone();
            send(i, chief, ACCEPT, group, NONE);
            await(i, JOINING, 3 * rules[WAIT]);
            i.tallies[TALLY_INVITED]++;
        }

        private void onReady(Member i, int k) {
            if (i.phase == JOINING && i.group == mail.field(k, GROUP)) {
                i.up = mail.field(k, EXTRA);
                learn(i, k);
                i.state = NORMAL;
                await(i, QUIET, rules[EVERY]);
                i.tallies[TALLY_READY]++;
            }
        }

        private void learn(Member i, int k) {
            for (int job = 0; job < jobs; job++) {
                i.ledger[job] = Math.max(i.ledger[job], mail.field(k, LEDGER + job));
            }
        }

        private void wake(Member i) {
            switch (i.phase) {
                case QUIET:
                    look(i);
                    break;
                case ASKING:
                    weigh(i);
                    if (i.phase == YIELDING && i.alarm == clock) {
                        merge(i);
                    }
                    break;
                case YIELDING:
                    merge(i);
                    break;
                case GATHERING:
                    i.state = NORMAL;
                    sendToAll(i, i.up, READY, i.group, i.up);
                    await(i, QUIET, rules[EVERY]);
                    break;
                default:
                    goAlone(i);
                    break;
            }
        }

        private void look(Member i) {
            if (i.chief == i.number) {
                i.found = 0;
                i.heard = 0;
                sendToAll(i, all(), ASK, i.group, NONE);
                await(i, ASKING, rules[WAIT]);
            } else {
                send(i, i.chief, THERE, i.group, NONE);
                await(i, CHECKING, rules[WAIT]);
            }
        }

        private void weigh(Member i) {
            if (i.found == 0 && (i.up & ~i.bit() & ~i.heard) == 0) {
                await(i, QUIET, rules[EVERY]);
            } else {
                await(i, YIELDING, Integer.bitCount(i.found & i.above) * rules[GAP]);
            }
        }

        private void merge(Member i) {
            i.count++;
            regroup(i, 10 * i.count + i.number);
            i.state = ELECTING;
            sendToAll(i, i.found | i.up, INVITE, i.group, i.number);
            i.standAlone();
            await(i, GATHERING, 2 * rules[WAIT]);
            i.tallies[TALLY_MERGED]++;
        }

        void goAlone(Member i) {
            i.count++;
            regroup(i, 10 * i.count + i.number);
            i.chief = i.number;
            i.standAlone();
            i.state = NORMAL;
            await(i, QUIET, rules[EVERY]);
            i.tallies[TALLY_ALONE]++;
        }

        private void await(Member i, int phase, int time) {
            i.phase = phase;
            i.alarm = clock + time;
        }

        private void sendToAll(Member i, int set, int kind, int group, int extra) {
            for (int j = 0; j < members; j++) {
                if (j != i.number && (set & 1 << j) != 0) {
                    mail.add(i, j, kind, clock + rules[DELAY], group, extra);
                }
            }
        }

        private void send(Member i, int to, int kind, int group, int extra) {
            mail.add(i, to, kind, clock + rules[DELAY], group, extra);
        }

        private void regroup(Member i, int group) {
            if (i.group == group) {
                return;
            }
            int row = Math.floorMod(changed, MOST_CHANGES) * CHANGE_WIDTH;
            changes[row] = clock;
            changes[row + 1] = i.number;
            changes[row + 2] = i.group;
            changes[row + 3] = group;
            changed++;
            i.group = group;
        }

        int changesTold() {
            return Math.min(changed, MOST_CHANGES);
        }

        int changeField(int k, int field) {
            int row = Math.floorMod(changed - changesTold() + k, MOST_CHANGES);
            return changes[row * CHANGE_WIDTH + field];
        }

        int partOf(Member i) {
            int size = Integer.bitCount(i.up);
            if (i.state != NORMAL || size == 0) {
                return 0;
            }
            int part = 0;
            for (int job = Integer.bitCount(i.up & i.above); job < jobs; job += size) {
                part |= 1 << job;
            }
            return part;
        }

        private void labour(Member i) {
            int part = partOf(i);
            int least = NONE;
            for (int job = 0; job < jobs; job++) {
                if ((part & 1 << job) != 0 && (least == NONE || i.ledger[job] < i.ledger[least])) {
                    least = job;
                }
            }
            if (least != NONE) {
                i.ledger[least]++;
                i.work[least]++;
            }
        }
    }

    /** Questions about a world that change nothing in it. */
    private static final class Survey {
        private Survey() {
        }

        static int awake(World world) {
            int set = 0;
            for (int i = 0; i < world.members; i++) {
                if (world.member[i].state != DOWN) {
                    set |= 1 << i;
                }
            }
            return set;
        }

        static int setOf(World world, int i) {
            int awake = awake(world);
            int set = awake & 1 << i;
            for (int round = 0; round < world.members; round++) {
                int reached = set;
                for (int j = 0; j < world.members; j++) {
                    if ((set & 1 << j) != 0) {
                        reached |= world.whole[j] & awake;
                    }
                }
                if (reached == set) {
                    break;
                }
                set = reached;
            }
            return set;
        }

        static int circleOf(World world, int i) {
            int set = 0;
            if (world.member[i].state == NORMAL) {
                for (int j = 0; j < world.members; j++) {
                    Member m = world.member[j];
                    if (m.state == NORMAL && m.group == world.member[i].group) {
                        set |= 1 << j;
                    }
                }
            }
            return set;
        }

        static int sets(World world) {
            int found = 0;
            for (int i = 0; i < world.members; i++) {
                if (isFirst(setOf(world, i), i)) {
                    found++;
                }
            }
            return found;
        }

        static int circles(World world) {
            int found = 0;
            for (int i = 0; i < world.members; i++) {
                if (isFirst(circleOf(world, i), i)) {
                    found++;
                }
            }
            return found;
        }

        /** Whether a set has i and none below, so that each set is counted once. */
        private static boolean isFirst(int set, int i) {
            return (set & -set) == 1 << i;
        }

        static boolean isOne(World world) {
            for (int i = 0; i < world.members; i++) {
                if (world.member[i].state == ELECTING) {
                    return false;
                }
            }
            for (int i = 0; i < world.members; i++) {
                Member m = world.member[i];
                if (m.state == NORMAL && (m.up != circleOf(world, i) || m.up != setOf(world, i))) {
                    return false;
                }
            }
            return true;
        }

        /** All of a circle with one chief have but one that is chief itself. */
        static boolean isSound(World world) {
            for (int i = 0; i < world.members; i++) {
                int circle = circleOf(world, i);
                for (int j = 0; j < world.members; j++) {
                    if ((circle & 1 << j) != 0 && world.member[j].chief != world.member[i].chief) {
                        return false;
                    }
                }
            }
            return true;
        }

        static int workOf(World world, int job) {
            int sum = 0;
            for (int i = 0; i < world.members; i++) {
                sum += world.member[i].work[job];
            }
            return sum;
        }

        static int greatestLedger(World world, int job) {
            int greatest = 0;
            for (int i = 0; i < world.members; i++) {
                greatest = Math.max(greatest, world.member[i].ledger[job]);
            }
            return greatest;
        }

        static int leastLedger(World world, int job) {
            int least = world.member[0].ledger[job];
            for (int i = 1; i < world.members; i++) {
                least = Math.min(least, world.member[i].ledger[job]);
            }
            return least;
        }

        static int twice(World world) {
            int sum = 0;
            for (int job = 0; job < world.jobs; job++) {
                sum += workOf(world, job) - greatestLedger(world, job);
            }
            return sum;
        }

        static int holdersOf(World world, int job) {
            int set = 0;
            for (int i = 0; i < world.members; i++) {
                if ((world.partOf(world.member[i]) & 1 << job) != 0) {
                    set |= 1 << i;
                }
            }
            return set;
        }

        static int jobsHeldBy(World world, int fewest, int most) {
            int found = 0;
            for (int job = 0; job < world.jobs; job++) {
                int holders = Integer.bitCount(holdersOf(world, job));
                if (holders >= fewest && holders <= most) {
                    found++;
                }
            }
            return found;
        }

        static int leaders(World world) {
            int set = 0;
            for (int i = 0; i < world.members; i++) {
                if (world.member[i].leads()) {
                    set |= 1 << i;
                }
            }
            return set;
        }

        static int atPlace(World world, int circle, int k) {
            for (int i = 0; i < world.members; i++) {
                if ((circle & 1 << i) != 0 && Integer.bitCount(circle & world.member[i].above) == k) {
                    return i;
                }
            }
            return NONE;
        }

        static int chiefOfMost(World world) {
            int best = NONE;
            int most = 0;
            for (int chief = 0; chief < world.members; chief++) {
                int theirs = 0;
                for (int i = 0; i < world.members; i++) {
                    if (world.member[i].state == NORMAL && world.member[i].chief == chief) {
                        theirs++;
                    }
                }
                if (theirs > most) {
                    most = theirs;
                    best = chief;
                }
            }
            return best;
        }
    }
}

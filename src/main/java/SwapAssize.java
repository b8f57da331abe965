import java.util.NoSuchElementException;

/** Assizes whose judges swap their verdicts; ../shared/DOC.md says what each call answers. */
public final class SwapAssize {
    public static final int NONE = -1;

    /** What is answered for others where NONE is an answer of its own. */
    private static final int OTHERS = -2;
    private static final int MOST = 7;
    private static final int DAYS = 4;
    private static final int MOST_LEANING = 20;
    private static final int MOST_GUILT = 20;
    private static final int MOST_HAD = 9999;
    private static final int DAYS_AHEAD = 60;
    private static final int PLACES = 7;
    private static final int ALL_PLACES = (1 << PLACES) - 1;
    private static final int MARKS = 4;
    private static final int TAPE_LENGTH = 1000;
    /** In how many ways none of so many gets their own. */
    private static final int[] STRANGE_DEALS = {1, 0, 1, 2, 9, 44, 265, 1854};

    private final Lexer tape = new Lexer();
    private final Reader reader = new Reader(tape);
    private Roll told = new Roll();
    private Roll draft = new Roll();
    private Term lines = new Term();
    private Term draftLines = new Term();
    private final State now = new State();
    /** Where days go by that are only asked about. */
    private final State ahead = new State();
    private final State asked = new State();
    private final Sitting sitting = new Sitting();
    private final Planner planner = new Planner();
    private final Past past = new Past();
    private final Seen seen = new Seen();
    private final State[] markedStates = new State[MARKS];
    private final Seen[] markedSeen = new Seen[MARKS];
    private final boolean[] laid = new boolean[MARKS];
    private int drawn;

    public SwapAssize() {
        for (int mark = 0; mark < MARKS; mark++) {
            markedStates[mark] = new State();
            markedSeen[mark] = new Seen();
        }
    }

    // ---- the tape, and what reads it

    public int feed(long a, long b, long c) {
        putSigns(a);
        putSigns(b);
        putSigns(c);
        return tape.length;
    }

    private void putSigns(long eight) {
        for (int shift = 56; shift >= 0; shift -= 8) {
            tape.put((int) (eight >> shift & 255));
        }
    }

    public int assize() {
        int fault = reader.readAssize(draft);
        tape.length = 0;
        if (fault == 0) {
            Roll old = told;
            told = draft;
            draft = old;
            beginAnew();
        }
        return fault;
    }

    private void beginAnew() {
        now.copyOf(told.begin);
        lines.many = 0;
        seen.many = 0;
        past.many = 0;
        for (int mark = 0; mark < MARKS; mark++) {
            laid[mark] = false;
        }
    }

    public int term() {
        int fault = reader.readTerm(draftLines, told);
        tape.length = 0;
        if (fault == 0) {
            Term old = lines;
            lines = draftLines;
            draftLines = old;
        }
        return fault;
    }

    // ---- who and what there is

    public int judge(int judge, int what) {
        if (!told.isJudge(judge)) {
            return NONE;
        }
        switch (what) {
            case 0:
                return told.kinds[judge];
            case 1:
                return now.leans[judge];
            case 2:
                return now.chairOf(judge);
            default:
                return NONE;
        }
    }

    public int trial(int trial, int what) {
        if (!told.isCase(trial)) {
            return OTHERS;
        }
        switch (what) {
            case 0:
                return told.guilts[trial];
            case 1:
                return now.up[trial];
            case 2:
                return now.had[trial];
            case 3:
                return gets(trial);
            default:
                return OTHERS;
        }
    }

    public int count(int what) {
        switch (what) {
            case 0:
                return told.judges;
            case 1:
                return told.cases;
            case 2:
                return now.next;
            case 3:
                return now.rounds;
            case 4:
                return now.hadByAll();
            case 5:
                sitting.sitOn(told, now, now.next);
                return sitting.heardBits();
            case 6:
                return lines.many;
            case 7:
                return seen.many;
            case 8:
                return past.many;
            case 9:
                return tape.length;
            default:
                return NONE;
        }
    }

    // ---- terms by hand

    public int day() {
        past.keep(now);
        sitting.holdNext(told, now);
        return sitting.heardBits();
    }

    public int plead(int trial, int day) {
        if (!told.isCase(trial) || !isDay(day)) {
            return NONE;
        }
        past.keep(now);
        int before = now.up[trial];
        now.pleadFor(trial, day);
        return before;
    }

    public int lean(int judge, int leans) {
        if (!told.isJudge(judge) || !isWithin(leans, 0, MOST_LEANING)) {
            return NONE;
        }
        past.keep(now);
        int before = now.leans[judge];
        now.leanTo(judge, leans);
        return before;
    }

    public boolean change(int judge, int other) {
        if (!told.isJudge(judge) || !told.isJudge(other) || judge == other) {
            return false;
        }
        past.keep(now);
        now.changeChairs(judge, other);
        return true;
    }

    public boolean undo() {
        return past.bringBack(now);
    }

    public boolean mark(int mark, boolean back) {
        if (!isWithin(mark, 0, MARKS - 1)) {
            return false;
        }
        if (!back) {
            markedStates[mark].copyOf(now);
            markedSeen[mark].copyOf(seen);
            laid[mark] = true;
            return true;
        }
        if (!laid[mark]) {
            return false;
        }
        now.copyOf(markedStates[mark]);
        seen.copyOf(markedSeen[mark]);
        past.many = 0;
        return true;
    }

    public int judged(int what) {
        if (!isWithin(what, 0, 2)) {
            return OTHERS;
        }
        int harshLine = NONE;
        int ownLine = NONE;
        ahead.copyOf(told.begin);
        for (int line = 0; line < lines.many; line++) {
            if (!lines.isDay(line)) {
                lines.applyTo(ahead, line);
                continue;
            }
            sitting.holdNext(told, ahead);
            if (harshLine == NONE && sitting.greatest() >= 20) {
                harshLine = line;
            }
            if (ownLine == NONE && sitting.many > 1 && sitting.ownBits() != 0) {
                ownLine = line;
            }
        }
        if (what == 2) {
            return ahead.hadByAll();
        }
        return what == 0 ? harshLine : ownLine;
    }

    // ---- hearing and getting

    public int hears(int trial) {
        if (!told.isCase(trial)) {
            return NONE;
        }
        sitting.sitOn(told, now, now.up[trial]);
        return sitting.judgeAt(now, sitting.placeOf[trial]);
    }

    public int gives(int judge, int trial) {
        if (!told.isJudge(judge) || !told.isCase(trial)) {
            return NONE;
        }
        return told.verdict(now, judge, trial);
    }

    public int from(int trial) {
        if (!told.isCase(trial)) {
            return NONE;
        }
        sitting.holdThrough(told, now, ahead, now.up[trial]);
        return sitting.judgeAt(now, sitting.sourceOf(trial));
    }

    public int gets(int trial) {
        if (!told.isCase(trial)) {
            return NONE;
        }
        sitting.holdThrough(told, now, ahead, now.up[trial]);
        return sitting.amountOf(trial);
    }

    public int best(int trial) {
        if (!told.isCase(trial)) {
            return NONE;
        }
        int best = 0;
        int least = 0;
        for (int day = 0; day < DAYS; day++) {
            asked.copyOf(now);
            asked.pleadFor(trial, day);
            sitting.holdThrough(told, asked, ahead, day);
            int amount = Math.max(sitting.amountOf(trial), 0);
            if (day == 0 || amount < least) {
                best = day;
                least = amount;
            }
        }
        return best;
    }

    public int plan(int what) {
        if (what != NONE && !told.isCase(what)) {
            return OTHERS;
        }
        planner.work(told, now);
        return what == NONE ? planner.howMuch() : planner.dayOf(what);
    }

    // ---- deals of a day

    public int lightest(int day) {
        if (!isDay(day)) {
            return NONE;
        }
        sitting.sitOn(told, now, day);
        return sitting.leastWorst();
    }

    public int own(int day) {
        if (!isDay(day)) {
            return NONE;
        }
        sitting.holdThrough(told, now, ahead, day);
        return sitting.ownBits();
    }

    public int back(int day) {
        if (!isDay(day)) {
            return NONE;
        }
        sitting.holdThrough(told, now, ahead, day);
        return sitting.dealsUntilOwn();
    }

    public int loops(int day) {
        if (!isDay(day)) {
            return NONE;
        }
        sitting.holdThrough(told, now, ahead, day);
        return sitting.roundsOfCases();
    }

    public int strange(int day) {
        if (!isDay(day)) {
            return NONE;
        }
        sitting.sitOn(told, now, day);
        return sitting.many < STRANGE_DEALS.length ? STRANGE_DEALS[sitting.many] : NONE;
    }

    public int crowd(int day) {
        if (!isDay(day)) {
            return NONE;
        }
        int bits = 0;
        for (int trial = 0; trial < told.cases; trial++) {
            if (now.up[trial] == day) {
                bits |= 1 << trial;
            }
        }
        return bits;
    }

    public int heavy() {
        int heaviest = 0;
        int most = 0;
        for (int day = 0; day < DAYS; day++) {
            sitting.sitOn(told, now, day);
            int together = sitting.given();
            if (together > most) {
                heaviest = day;
                most = together;
            }
        }
        return heaviest;
    }

    // ---- days to come

    public int later(int trial, int days) {
        if (!told.isCase(trial) || !isWithin(days, 0, DAYS_AHEAD)) {
            return NONE;
        }
        holdSoMany(days);
        return ahead.had[trial];
    }

    public int grief(int days) {
        if (!isWithin(days, 0, DAYS_AHEAD)) {
            return NONE;
        }
        holdSoMany(days);
        return ahead.hadByAll();
    }

    private void holdSoMany(int days) {
        ahead.copyOf(now);
        for (int n = 0; n < days; n++) {
            sitting.holdNext(told, ahead);
        }
    }

    public int reaches(int trial, int much) {
        if (!told.isCase(trial) || !isWithin(much, 0, MOST_HAD)) {
            return NONE;
        }
        ahead.copyOf(now);
        for (int days = 0; days <= DAYS_AHEAD; days++) {
            if (ahead.had[trial] >= much) {
                return days;
            }
            sitting.holdNext(told, ahead);
        }
        return NONE;
    }

    public int spared() {
        int bits = 0;
        ahead.copyOf(now);
        for (int n = 0; n < DAYS; n++) {
            sitting.holdNext(told, ahead);
            bits |= sitting.sparedBits();
        }
        return bits;
    }

    // ---- what they have had

    public int uneven() {
        if (told.cases == 0) {
            return 0;
        }
        int least = now.had[0];
        for (int trial = 1; trial < told.cases; trial++) {
            least = Math.min(least, now.had[trial]);
        }
        return now.hadMost() - least;
    }

    public int lucky() {
        int luckiest = NONE;
        int least = 0;
        for (int trial = 0; trial < told.cases; trial++) {
            int luck = now.had[trial] - told.guilts[trial] * now.rounds;
            if (luckiest == NONE || luck < least) {
                luckiest = trial;
                least = luck;
            }
        }
        return luckiest;
    }

    // ---- how far it was dealt

    public boolean see(int trial, int judge, boolean got) {
        return told.isCase(trial) && told.isJudge(judge) && seen.add(trial, judge, got);
    }

    public int shifts() {
        int bits = ALL_PLACES;
        for (int n = 0; n < seen.many; n++) {
            int got = placesByWhichGot(seen.trials[n], seen.judges[n]);
            bits &= seen.isGot(n) ? got : ~got;
        }
        return bits;
    }

    /** The numbers of places, as bits, by which a CASE gets the verdict of a JUDGE. */
    private int placesByWhichGot(int trial, int judge) {
        sitting.sitOn(told, now, now.up[trial]);
        int bits = 0;
        for (int places = 0; places < PLACES; places++) {
            int source = sitting.sourceByShift(trial, places);
            if (sitting.judgeAt(now, source) == judge) {
                bits |= 1 << places;
            }
        }
        return bits;
    }

    public int ask() {
        int left = shifts();
        int least = Integer.bitCount(left);
        int which = NONE;
        for (int trial = 0; trial < told.cases; trial++) {
            for (int judge = 0; judge < told.judges; judge++) {
                int got = placesByWhichGot(trial, judge);
                int greater = Math.max(Integer.bitCount(left & got), Integer.bitCount(left & ~got));
                if (greater < least) {
                    least = greater;
                    which = 8 * trial + judge;
                }
            }
        }
        return which;
    }

    public int chance(int trial, int much, int odds) {
        if (!told.isCase(trial) || !isWithin(much, 1, 40) || !isWithin(odds, 0, 10)) {
            return NONE;
        }
        sitting.holdThrough(told, now, ahead, now.up[trial]);
        int amount = sitting.amountOf(trial);
        if (amount == NONE) {
            return NONE;
        }
        int byShifts = 0;
        for (int places = 0; places < PLACES; places++) {
            if (sitting.givenAt(sitting.sourceByShift(trial, places)) >= much) {
                byShifts++;
            }
        }
        int asDealt = amount >= much ? PLACES : 0;
        return (odds * asDealt + (10 - odds) * byShifts) * 1000000 / (10 * PLACES);
    }

    // ---- judges

    public int swap() {
        int least = fourDaysGive(now);
        int pair = NONE;
        for (int judge = 0; judge < told.judges; judge++) {
            for (int other = judge + 1; other < told.judges; other++) {
                asked.copyOf(now);
                asked.changeChairs(judge, other);
                int together = fourDaysGive(asked);
                if (together < least) {
                    least = together;
                    pair = 8 * judge + other;
                }
            }
        }
        return pair;
    }

    /** However it is dealt, all that is given is got: no deal is needed for what days give. */
    private int fourDaysGive(State state) {
        int together = 0;
        for (int day = 0; day < DAYS; day++) {
            sitting.sitOn(told, state, day);
            together += sitting.given();
        }
        return together;
    }

    public int harsh() {
        int harshest = NONE;
        int most = 0;
        for (int judge = 0; judge < told.judges; judge++) {
            int together = 0;
            for (int trial = 0; trial < told.cases; trial++) {
                together += told.verdict(now, judge, trial);
            }
            if (harshest == NONE || together > most) {
                harshest = judge;
                most = together;
            }
        }
        return harshest;
    }

    public int mercy(int trial) {
        if (!told.isCase(trial)) {
            return NONE;
        }
        int mildest = NONE;
        int least = 0;
        for (int judge = 0; judge < told.judges; judge++) {
            int amount = told.verdict(now, judge, trial);
            if (mildest == NONE || amount < least) {
                mildest = judge;
                least = amount;
            }
        }
        return mildest;
    }

    public int idle() {
        int busyChairs = 0;
        for (int day = 0; day < DAYS; day++) {
            sitting.sitOn(told, now, day);
            busyChairs = Math.max(busyChairs, sitting.many);
        }
        int bits = 0;
        for (int chair = busyChairs; chair < told.judges; chair++) {
            bits |= 1 << now.chairs[chair];
        }
        return bits;
    }

    // ---- mercy at rest

    public int rests(int both, int loses, int gains, int what) throws NoSuchElementException {
        if (!isWithin(both, 0, 9) || !isWithin(loses, 0, 9) || !isWithin(gains, 0, 9) || what < NONE) {
            throw new NoSuchElementException();
        }
        int found = 0;
        for (int choices = 0; choices < 4; choices++) {
            if (isRest(both, loses, gains, choices)) {
                if (found == what) {
                    return choices;
                }
                found++;
            }
        }
        if (what != NONE) {
            throw new NoSuchElementException();
        }
        return found;
    }

    private static boolean isRest(int both, int loses, int gains, int choices) {
        int first = choices >> 1;
        int other = choices & 1;
        return payOf(both, loses, gains, first, other) >= payOf(both, loses, gains, 1 - first, other)
            && payOf(both, loses, gains, other, first) >= payOf(both, loses, gains, 1 - other, first);
    }

    /** What one gets by a choice of his own and the other one's (1 mild, 0 stern). */
    private static int payOf(int both, int loses, int gains, int his, int others) {
        if (his == 1) {
            return others == 1 ? both : -loses;
        }
        return others == 1 ? gains : 0;
    }

    // ---- terms by draws

    public int terms(int seed, int days, int what) {
        if (!isWithin(seed, 0, 9999) || !isWithin(days, 1, 99) || !isWithin(what, 0, 2)) {
            return OTHERS;
        }
        ahead.copyOf(now);
        drawn = seed;
        for (int n = 0; n < days; n++) {
            if (told.judges > 0 && told.cases > 0) {
                actByDraws();
            }
            sitting.holdNext(told, ahead);
        }
        if (what == 0) {
            return ahead.hadByAll() - now.hadByAll();
        }
        return what == 1 ? ahead.hadMost() : ahead.leansMost(told.judges);
    }

    private void actByDraws() {
        switch (draw(5)) {
            case 0:
                int trial = draw(told.cases);
                ahead.pleadFor(trial, draw(DAYS));
                break;
            case 1:
                int judge = draw(told.judges);
                ahead.leanTo(judge, draw(MOST_LEANING + 1));
                break;
            case 2:
                int one = draw(told.judges);
                ahead.changeChairs(one, draw(told.judges));
                break;
            default:
                break;
        }
    }

    private int draw(int below) {
        drawn = drawn * 1103515245 + 12345 & Integer.MAX_VALUE;
        return below > 0 ? drawn / 65536 % below : 0;
    }

    private static boolean isDay(int day) {
        return isWithin(day, 0, DAYS - 1);
    }

    private static boolean isWithin(int number, int least, int most) {
        return number >= least && number <= most;
    }

    /** What the next days, PLEAS, LEANINGS and CHANGES alter: all that can be undone. */
    private static final class State {
        int next;
        int rounds;
        final int[] had = new int[MOST];
        final int[] up = new int[MOST];
        final int[] leans = new int[MOST];
        /** The JUDGE in each chair. */
        final int[] chairs = new int[MOST];

        State() {
            seatByNumbers();
        }

        private void seatByNumbers() {
            for (int chair = 0; chair < MOST; chair++) {
                chairs[chair] = chair;
            }
        }

        void clear() {
            next = 0;
            rounds = 0;
            for (int n = 0; n < MOST; n++) {
                had[n] = 0;
                up[n] = 0;
                leans[n] = 0;
            }
            seatByNumbers();
        }

        void copyOf(State other) {
            next = other.next;
            rounds = other.rounds;
            System.arraycopy(other.had, 0, had, 0, MOST);
            System.arraycopy(other.up, 0, up, 0, MOST);
            System.arraycopy(other.leans, 0, leans, 0, MOST);
            System.arraycopy(other.chairs, 0, chairs, 0, MOST);
        }

        void pleadFor(int trial, int day) {
            if (isWithin(trial, 0, MOST - 1)) {
                up[trial] = day;
            }
        }

        void leanTo(int judge, int much) {
            if (isWithin(judge, 0, MOST - 1)) {
                leans[judge] = much;
            }
        }

        int chairOf(int judge) {
            for (int chair = 0; chair < MOST; chair++) {
                if (chairs[chair] == judge) {
                    return chair;
                }
            }
            return NONE;
        }

        void changeChairs(int judge, int other) {
            int first = chairOf(judge);
            int second = chairOf(other);
            if (first != NONE && second != NONE) {
                chairs[first] = other;
                chairs[second] = judge;
            }
        }

        void addHad(int trial, int amount) {
            had[trial] = Math.min(had[trial] + amount, MOST_HAD);
        }

        void dayIsOver() {
            next++;
            if (next >= DAYS) {
                next = 0;
                rounds++;
            }
        }

        int hadByAll() {
            int together = 0;
            for (int trial = 0; trial < MOST; trial++) {
                together += had[trial];
            }
            return together;
        }

        int hadMost() {
            int most = 0;
            for (int trial = 0; trial < MOST; trial++) {
                most = Math.max(most, had[trial]);
            }
            return most;
        }

        int leansMost(int judges) {
            int who = NONE;
            for (int judge = 0; judge < judges && judge < MOST; judge++) {
                if (who == NONE || leans[judge] > leans[who]) {
                    who = judge;
                }
            }
            return who;
        }
    }

    /** What an ASSIZE tells; it stays as it is until another one is read. */
    private static final class Roll {
        static final int STERN = 1;
        static final int MILD = 2;
        static final int SAME = 3;
        static final int MOST_GIVEN = 40;

        int judges;
        int cases;
        final long[] judgeNames = new long[MOST];
        final long[] caseNames = new long[MOST];
        final int[] kinds = new int[MOST];
        final int[] guilts = new int[MOST];
        final Law law = new Law();
        final State begin = new State();

        void clear() {
            judges = 0;
            cases = 0;
            law.length = 0;
            begin.clear();
        }

        boolean isJudge(int judge) {
            return judge >= 0 && judge < judges;
        }

        boolean isCase(int trial) {
            return trial >= 0 && trial < cases;
        }

        void addJudge(long name, int kind, int leans) {
            if (judges < MOST) {
                judgeNames[judges] = name;
                kinds[judges] = kind;
                begin.leans[judges] = leans;
                judges++;
            }
        }

        void addCase(long name, int guilt, int day) {
            if (cases < MOST) {
                caseNames[cases] = name;
                guilts[cases] = guilt;
                begin.up[cases] = day;
                cases++;
            }
        }

        int judgeNamed(long name) {
            return indexOf(judgeNames, judges, name);
        }

        int caseNamed(long name) {
            return indexOf(caseNames, cases, name);
        }

        private static int indexOf(long[] names, int many, long name) {
            for (int n = 0; n < many && n < names.length; n++) {
                if (names[n] == name) {
                    return n;
                }
            }
            return NONE;
        }

        int verdict(State state, int judge, int trial) {
            if (!isJudge(judge) || !isCase(trial)) {
                return 0;
            }
            if (kinds[judge] == SAME) {
                return 10;
            }
            int amount = guilts[trial] + state.leans[judge] - 10;
            if (kinds[judge] == STERN) {
                amount += 5;
            } else if (kinds[judge] == MILD && amount > 0) {
                amount /= 2;
            }
            return Math.min(Math.max(amount, 0), MOST_GIVEN);
        }
    }

    /** The E of deals, operands ahead of what joins them, so that telling needs no recursion. */
    private static final class Law {
        /** The facts, in the order of their words; what is left of them is grief. */
        static final int NTH = -1;
        static final int MANY = -2;
        static final int TODAY = -3;
        static final int NOT = -10;
        static final int AND = -11;
        static final int OR = -12;
        static final int LESS = -13;
        static final int EQUAL = -14;
        static final int PLUS = -15;
        static final int MINUS = -16;
        static final int TIMES = -17;
        /** Four operands can wait at each of the five levels that parts may lie at. */
        static final int WAITING = 32;

        int length;
        /** A NUMBER is itself; facts and what joins are less than 0. */
        final int[] code = new int[TAPE_LENGTH];
        private final int[] waiting = new int[WAITING];

        void add(int step) {
            if (length < code.length) {
                code[length] = step;
                length++;
            }
        }

        int tells(int nth, int many, int today, int grief) {
            int top = 0;
            for (int at = 0; at < length && at < code.length; at++) {
                int step = code[at];
                if (step > NOT) {
                    if (top < WAITING) {
                        waiting[top] = step >= 0 ? step : fact(step, nth, many, today, grief);
                        top++;
                    }
                } else if (step == NOT) {
                    if (top > 0) {
                        waiting[top - 1] = waiting[top - 1] == 0 ? 1 : 0;
                    }
                } else if (top > 1) {
                    top--;
                    waiting[top - 1] = joined(step, waiting[top - 1], waiting[top]);
                }
            }
            return top > 0 ? waiting[0] : 1;
        }

        private static int fact(int step, int nth, int many, int today, int grief) {
            switch (step) {
                case NTH:
                    return nth;
                case MANY:
                    return many;
                case TODAY:
                    return today;
                default:
                    return grief;
            }
        }

        private static int joined(int step, int left, int right) {
            switch (step) {
                case AND:
                    return left != 0 && right != 0 ? 1 : 0;
                case OR:
                    return left != 0 || right != 0 ? 1 : 0;
                case LESS:
                    return left < right ? 1 : 0;
                case EQUAL:
                    return left == right ? 1 : 0;
                case PLUS:
                    return left + right;
                case MINUS:
                    return left - right;
                default:
                    return left * right;
            }
        }
    }

    /** One day: who is HEARD, what is given on them, and, once dealt, whose each one gets. */
    private static final class Sitting {
        /** More than any difference of two verdicts. */
        private static final int FAR = 99;
        private static final int MOST_DEALS = 12;

        int many;
        /** The CASES that are HEARD, place by place; the JUDGE of a place is in that chair. */
        private final int[] heard = new int[MOST];
        private final int[] amounts = new int[MOST];
        /** The place whose verdict comes to a place. */
        private final int[] sources = new int[MOST];
        final int[] placeOf = new int[MOST];
        private final boolean[] reached = new boolean[MOST];
        private final int[] holders = new int[MOST];
        private final int[] worst = new int[1 << MOST];

        void sitOn(Roll roll, State state, int day) {
            many = 0;
            for (int trial = 0; trial < roll.cases && trial < MOST; trial++) {
                placeOf[trial] = NONE;
                if (state.up[trial] == day && many < roll.judges && many < MOST) {
                    heard[many] = trial;
                    amounts[many] = roll.verdict(state, state.chairs[many], trial);
                    placeOf[trial] = many;
                    many++;
                }
            }
        }

        void holdNext(Roll roll, State state) {
            sitOn(roll, state, state.next);
            deal(roll.law, state);
            for (int place = 0; place < many; place++) {
                state.addHad(heard[place], amounts[sources[place]]);
            }
            state.dayIsOver();
        }

        /** Days go by, ahead of a state, until the day has been held: this is that day's sitting then. */
        void holdThrough(Roll roll, State state, State ahead, int day) {
            ahead.copyOf(state);
            boolean held = false;
            for (int n = 0; n < DAYS && !held; n++) {
                held = ahead.next == day;
                holdNext(roll, ahead);
            }
        }

        private void deal(Law law, State state) {
            int grief = state.hadByAll();
            for (int place = 0; place < many; place++) {
                reached[place] = false;
            }
            for (int nth = 0; nth < many; nth++) {
                int places = law.tells(nth, many, state.next, grief);
                int to = freeFrom((nth + Math.floorMod(places, many)) % many);
                reached[to] = true;
                sources[to] = nth;
            }
        }

        private int freeFrom(int place) {
            int to = place;
            for (int n = 0; n < many && reached[to]; n++) {
                to = to + 1 < many ? to + 1 : 0;
            }
            return to;
        }

        int heardBits() {
            int bits = 0;
            for (int place = 0; place < many; place++) {
                bits |= 1 << heard[place];
            }
            return bits;
        }

        int ownBits() {
            int bits = 0;
            for (int place = 0; place < many; place++) {
                if (sources[place] == place) {
                    bits |= 1 << heard[place];
                }
            }
            return bits;
        }

        int sparedBits() {
            int bits = 0;
            for (int place = 0; place < many; place++) {
                if (amounts[sources[place]] < amounts[place]) {
                    bits |= 1 << heard[place];
                }
            }
            return bits;
        }

        int given() {
            int together = 0;
            for (int place = 0; place < many; place++) {
                together += amounts[place];
            }
            return together;
        }

        int greatest() {
            int most = 0;
            for (int place = 0; place < many; place++) {
                most = Math.max(most, amounts[place]);
            }
            return most;
        }

        int givenAt(int place) {
            return isPlace(place) ? amounts[place] : NONE;
        }

        int judgeAt(State state, int place) {
            return isPlace(place) ? state.chairs[place] : NONE;
        }

        private boolean isPlace(int place) {
            return place >= 0 && place < many;
        }

        /** The place whose verdict a CASE gets; NONE: nobody HEARS it. */
        int sourceOf(int trial) {
            int place = placeOf[trial];
            return isPlace(place) ? sources[place] : NONE;
        }

        int amountOf(int trial) {
            return givenAt(sourceOf(trial));
        }

        /** Likewise, all dealt by one number of places. */
        int sourceByShift(int trial, int places) {
            int place = placeOf[trial];
            return isPlace(place) ? Math.floorMod(place - places, many) : NONE;
        }

        /**
         * LIGHTEST. The verdicts go to the places in turn, so how many are taken tells which place
         * is next, and what is best for the rest depends on which ones are taken alone.
         */
        int leastWorst() {
            if (many < 2) {
                return NONE;
            }
            int all = (1 << many) - 1;
            worst[all] = 0;
            for (int taken = all - 1; taken >= 0; taken--) {
                worst[taken] = leastWorstBehind(taken);
            }
            return worst[0];
        }

        private int leastWorstBehind(int taken) {
            int place = Integer.bitCount(taken);
            int least = FAR;
            for (int source = 0; source < many; source++) {
                if (source != place && (taken >> source & 1) == 0) {
                    int difference = Math.abs(amounts[source] - amounts[place]);
                    least = Math.min(least, Math.max(difference, worst[taken | 1 << source]));
                }
            }
            return least;
        }

        int dealsUntilOwn() {
            if (many == 0) {
                return NONE;
            }
            for (int place = 0; place < many; place++) {
                holders[place] = place;
            }
            for (int deals = 1; deals <= MOST_DEALS; deals++) {
                boolean all = true;
                for (int place = 0; place < many; place++) {
                    holders[place] = sources[holders[place]];
                    all &= holders[place] == place;
                }
                if (all) {
                    return deals;
                }
            }
            return NONE;
        }

        int roundsOfCases() {
            int rounds = 0;
            int gone = 0;
            for (int start = 0; start < many; start++) {
                if ((gone >> start & 1) == 0) {
                    rounds++;
                }
                int place = start;
                for (int n = 0; n < many && (gone >> place & 1) == 0; n++) {
                    gone |= 1 << place;
                    place = sources[place];
                }
            }
            return rounds;
        }
    }

    /**
     * PLAN. What a CASE is given depends on how many CASES ahead of it have its day: these numbers,
     * three bits a day, are all that the CASES behind must know, and together they tell which CASE
     * is next. A CASE under seven others at most makes no day's bits run over.
     */
    private static final class Planner {
        private static final int STEPS = 1 << 3 * DAYS;

        /** What the CASES behind are given at least, times 4, and the first day by which they are. */
        private final int[] least = new int[STEPS];
        /** What the JUDGE in a chair would give a CASE, 8 * the CASE + the chair; 0 where none sits. */
        private final int[] amounts = new int[8 * MOST];

        void work(Roll roll, State state) {
            setAmounts(roll, state);
            int cases = Math.min(roll.cases, MOST);
            for (int days = cases << 3 * (DAYS - 1); days >= 0; days--) {
                int trial = (days & 7) + (days >> 3 & 7) + (days >> 6 & 7) + (days >> 9 & 7);
                least[days] = trial < cases ? leastFrom(days, trial) : 0;
            }
        }

        private void setAmounts(Roll roll, State state) {
            for (int trial = 0; trial < MOST; trial++) {
                for (int chair = 0; chair < MOST; chair++) {
                    boolean sat = chair < roll.judges;
                    amounts[8 * trial + chair] = sat ? roll.verdict(state, state.chairs[chair], trial) : 0;
                }
            }
        }

        private int leastFrom(int days, int trial) {
            int found = Integer.MAX_VALUE;
            for (int day = 0; day < DAYS; day++) {
                int amount = amounts[8 * trial + (days >> 3 * day & 7)];
                int behind = least[withOneMore(days, day)] / DAYS;
                found = Math.min(found, (amount + behind) * DAYS + day);
            }
            return found;
        }

        private static int withOneMore(int days, int day) {
            return days + (1 << 3 * day) & STEPS - 1;
        }

        int howMuch() {
            return least[0] / DAYS;
        }

        int dayOf(int trial) {
            int days = 0;
            for (int n = 0; n < trial; n++) {
                days = withOneMore(days, least[days] % DAYS);
            }
            return least[days] % DAYS;
        }
    }

    /** The last states, as they were ahead of what was done; the oldest gives way. */
    private static final class Past {
        private static final int KEPT = 16;

        int many;
        private int top;
        private final State[] states = new State[KEPT];

        Past() {
            for (int n = 0; n < KEPT; n++) {
                states[n] = new State();
            }
        }

        void keep(State state) {
            states[top].copyOf(state);
            top = (top + 1) % KEPT;
            many = Math.min(many + 1, KEPT);
        }

        boolean bringBack(State state) {
            if (many == 0) {
                return false;
            }
            many--;
            top = (top + KEPT - 1) % KEPT;
            state.copyOf(states[top]);
            return true;
        }
    }

    private static final class Seen {
        private static final int KEPT = 8;

        int many;
        final int[] trials = new int[KEPT];
        final int[] judges = new int[KEPT];
        /** Bits. */
        private int got;

        boolean add(int trial, int judge, boolean so) {
            if (many >= KEPT) {
                return false;
            }
            trials[many] = trial;
            judges[many] = judge;
            got = so ? got | 1 << many : got & ~(1 << many);
            many++;
            return true;
        }

        boolean isGot(int n) {
            return (got >> n & 1) == 1;
        }

        void copyOf(Seen other) {
            many = other.many;
            got = other.got;
            System.arraycopy(other.trials, 0, trials, 0, KEPT);
            System.arraycopy(other.judges, 0, judges, 0, KEPT);
        }
    }

    /** The lines of a TERM: the word of each, and its two numbers. */
    private static final class Term {
        static final int KEPT = 40;

        int many;
        private final int[] words = new int[KEPT];
        private final int[] firsts = new int[KEPT];
        private final int[] seconds = new int[KEPT];

        void add(int word, int first, int second) {
            if (many < KEPT) {
                words[many] = word;
                firsts[many] = first;
                seconds[many] = second;
                many++;
            }
        }

        boolean isDay(int line) {
            return words[line] == Lexer.DAY;
        }

        void applyTo(State state, int line) {
            int first = firsts[line];
            int second = seconds[line];
            if (words[line] == Lexer.PLEAD) {
                state.pleadFor(first, second);
            } else if (words[line] == Lexer.LEAN) {
                state.leanTo(first, second);
            } else {
                state.changeChairs(first, second);
            }
        }
    }

    /** The TAPE, and the token of it that is looked at. */
    private static final class Lexer {
        /** Kinds of tokens; a sign's kind is its number, and a word of the language has its own. */
        static final int END = 0;
        static final int BAD = 1;
        static final int NUMBER = 2;
        static final int WORD = 3;
        static final int JUDGE = 128;
        static final int LEANS = 129;
        static final int CASE = 130;
        static final int GUILT = 131;
        static final int ON = 132;
        static final int CHAIRS = 133;
        static final int DEALS = 134;
        static final int DAY = 135;
        static final int PLEAD = 136;
        static final int LEAN = 137;
        static final int CHANGE = 138;
        static final int PLAIN = 139;
        static final int SAME = 142;
        static final int NOT = 143;
        static final int AND = 144;
        static final int OR = 145;
        /** The first and the last one of the facts. */
        static final int NTH = 146;
        static final int GRIEF = 149;
        /** Kinds of FAULTS. */
        static final int OUT_OF_PLACE = 1;
        static final int UNKNOWN = 2;
        static final int TOLD_ALREADY = 3;
        static final int WRONG_NUMBER = 4;
        static final int TOO_MANY = 5;
        private static final int LONGEST_WORD = 8;
        private static final int LONGEST_NUMBER = 4;
        /** The words from JUDGE to GRIEF, a byte a letter, as words are held. */
        private static final long[] WORDS = {
            0x6a75646765L, // judge
            0x6c65616e73L, // leans
            0x63617365L, // case
            0x6775696c74L, // guilt
            0x6f6eL, // on
            0x636861697273L, // chairs
            0x6465616c73L, // deals
            0x646179L, // day
            0x706c656164L, // plead
            0x6c65616eL, // lean
            0x6368616e6765L, // change
            0x706c61696eL, // plain
            0x737465726eL, // stern
            0x6d696c64L, // mild
            0x73616d65L, // same
            0x6e6f74L, // not
            0x616e64L, // and
            0x6f72L, // or
            0x6e7468L, // nth
            0x6d616e79L, // many
            0x746f646179L, // today
            0x6772696566L // grief
        };

        int length;
        private final byte[] signs = new byte[TAPE_LENGTH];
        private int at;
        int kind;
        private int place;
        int number;
        long word;
        int fault;

        void put(int sign) {
            boolean is = sign == 10 || sign >= 32 && sign <= 126;
            if (is && length < TAPE_LENGTH) {
                signs[length] = (byte) sign;
                length++;
            }
        }

        void start() {
            at = 0;
            fault = 0;
            step();
        }

        boolean take(int wanted) {
            if (kind != wanted) {
                return wrong(OUT_OF_PLACE);
            }
            step();
            return true;
        }

        /** False, so that what finds the token wrong can answer by it. */
        boolean wrong(int faultKind) {
            fault = faultKind + 16 * place;
            return false;
        }

        void step() {
            while (at < length && (signs[at] == 10 || signs[at] == 32)) {
                at++;
            }
            place = at;
            if (at >= length) {
                kind = END;
            } else if (isLetter(signs[at])) {
                takeWord();
            } else if (isDigit(signs[at])) {
                takeNumber();
            } else {
                kind = "()<=+-*;".indexOf((char) signs[at]) >= 0 ? signs[at] : BAD;
                at++;
            }
        }

        private void takeWord() {
            word = 0;
            while (at < length && isLetter(signs[at])) {
                word = word << 8 | signs[at];
                at++;
            }
            kind = at - place > LONGEST_WORD ? BAD : kindOf(word);
        }

        private void takeNumber() {
            number = 0;
            while (at < length && isDigit(signs[at])) {
                number = number * 10 + signs[at] - '0';
                at++;
            }
            kind = at - place > LONGEST_NUMBER ? BAD : NUMBER;
        }

        private static int kindOf(long word) {
            for (int n = 0; n < WORDS.length; n++) {
                if (WORDS[n] == word) {
                    return JUDGE + n;
                }
            }
            return WORD;
        }

        private static boolean isLetter(int sign) {
            return sign >= 'a' && sign <= 'z';
        }

        private static boolean isDigit(int sign) {
            return sign >= '0' && sign <= '9';
        }

        boolean isFact() {
            return kind >= NTH && kind <= GRIEF;
        }

        /** The facts are no words that a NAME may not be. */
        boolean isName() {
            return kind == WORD || isFact();
        }
    }

    /** Reads the TAPE; the first wrong token ends it, and of each token the least FAULT is looked for first. */
    private static final class Reader {
        private final Lexer lexer;
        private final LawReader lawReader;
        /** What was taken last. */
        private long name;
        private int number;
        private boolean lawTold;
        /** Two JUDGES of chairs: bit 8 * the lesser + the other one. */
        private long pairsTold;

        Reader(Lexer tape) {
            lexer = tape;
            lawReader = new LawReader(tape);
        }

        int readAssize(Roll roll) {
            roll.clear();
            lawTold = false;
            pairsTold = 0;
            lexer.start();
            boolean right = true;
            for (int n = 0; n <= TAPE_LENGTH && right && lexer.kind != Lexer.END; n++) {
                switch (lexer.kind) {
                    case Lexer.JUDGE:
                        right = readJudge(roll);
                        break;
                    case Lexer.CASE:
                        right = readCase(roll);
                        break;
                    case Lexer.CHAIRS:
                        right = readChairs(roll);
                        break;
                    case Lexer.DEALS:
                        right = readLaw(roll.law);
                        break;
                    default:
                        right = lexer.wrong(Lexer.OUT_OF_PLACE);
                        break;
                }
            }
            return lexer.fault;
        }

        private boolean readJudge(Roll roll) {
            if (roll.judges >= MOST) {
                return lexer.wrong(Lexer.TOO_MANY);
            }
            lexer.step();
            if (!takeNewName(roll)) {
                return false;
            }
            int kind = lexer.kind;
            if (kind < Lexer.PLAIN || kind > Lexer.SAME) {
                return lexer.wrong(Lexer.OUT_OF_PLACE);
            }
            lexer.step();
            if (!lexer.take(Lexer.LEANS) || !takeNumber(MOST_LEANING) || !lexer.take(';')) {
                return false;
            }
            roll.addJudge(name, kind - Lexer.PLAIN, number);
            return true;
        }

        private boolean readCase(Roll roll) {
            if (roll.cases >= MOST) {
                return lexer.wrong(Lexer.TOO_MANY);
            }
            lexer.step();
            if (!takeNewName(roll) || !lexer.take(Lexer.GUILT) || !takeNumber(MOST_GUILT)) {
                return false;
            }
            int guilt = number;
            if (!lexer.take(Lexer.ON) || !takeNumber(DAYS - 1) || !lexer.take(';')) {
                return false;
            }
            roll.addCase(name, guilt, number);
            return true;
        }

        private boolean readChairs(Roll roll) {
            lexer.step();
            if (!findJudge(roll)) {
                return false;
            }
            int judge = number;
            lexer.step();
            if (!findJudge(roll)) {
                return false;
            }
            int other = number;
            long pair = 1L << 8 * Math.min(judge, other) + Math.max(judge, other);
            if (other == judge || (pairsTold & pair) != 0) {
                return lexer.wrong(Lexer.TOLD_ALREADY);
            }
            lexer.step();
            if (!lexer.take(';')) {
                return false;
            }
            pairsTold |= pair;
            roll.begin.changeChairs(judge, other);
            return true;
        }

        private boolean readLaw(Law law) {
            if (lawTold) {
                return lexer.wrong(Lexer.TOLD_ALREADY);
            }
            lawTold = true;
            lexer.step();
            return lawReader.read(law) && lexer.take(';');
        }

        int readTerm(Term term, Roll roll) {
            term.many = 0;
            lexer.start();
            boolean right = true;
            for (int n = 0; n <= TAPE_LENGTH && right && lexer.kind != Lexer.END; n++) {
                right = readTermLine(term, roll);
            }
            return lexer.fault;
        }

        private boolean readTermLine(Term term, Roll roll) {
            int word = lexer.kind;
            if (word < Lexer.DAY || word > Lexer.CHANGE) {
                return lexer.wrong(Lexer.OUT_OF_PLACE);
            }
            if (term.many >= Term.KEPT) {
                return lexer.wrong(Lexer.TOO_MANY);
            }
            lexer.step();
            int first = 0;
            number = 0;
            if (word != Lexer.DAY) {
                if (!(word == Lexer.PLEAD ? findCase(roll) : findJudge(roll))) {
                    return false;
                }
                first = number;
                lexer.step();
                if (!takeSecond(word, first, roll)) {
                    return false;
                }
            }
            if (!lexer.take(';')) {
                return false;
            }
            term.add(word, first, number);
            return true;
        }

        /** What stands behind the first NAME of a line. */
        private boolean takeSecond(int word, int first, Roll roll) {
            if (word == Lexer.PLEAD) {
                return takeNumber(DAYS - 1);
            }
            if (word == Lexer.LEAN) {
                return takeNumber(MOST_LEANING);
            }
            if (!findJudge(roll)) {
                return false;
            }
            if (number == first) {
                return lexer.wrong(Lexer.TOLD_ALREADY);
            }
            lexer.step();
            return true;
        }

        private boolean takeNumber(int most) {
            if (lexer.kind != Lexer.NUMBER) {
                return lexer.wrong(Lexer.OUT_OF_PLACE);
            }
            if (lexer.number > most) {
                return lexer.wrong(Lexer.WRONG_NUMBER);
            }
            number = lexer.number;
            lexer.step();
            return true;
        }

        private boolean takeNewName(Roll roll) {
            if (!lexer.isName()) {
                return lexer.wrong(Lexer.OUT_OF_PLACE);
            }
            name = lexer.word;
            if (roll.judgeNamed(name) != NONE || roll.caseNamed(name) != NONE) {
                return lexer.wrong(Lexer.TOLD_ALREADY);
            }
            lexer.step();
            return true;
        }

        /** The token stays, as a second JUDGE may still be wrong by being who he is. */
        private boolean findJudge(Roll roll) {
            if (!lexer.isName()) {
                return lexer.wrong(Lexer.OUT_OF_PLACE);
            }
            number = roll.judgeNamed(lexer.word);
            return number != NONE || lexer.wrong(Lexer.UNKNOWN);
        }

        private boolean findCase(Roll roll) {
            if (!lexer.isName()) {
                return lexer.wrong(Lexer.OUT_OF_PLACE);
            }
            number = roll.caseNamed(lexer.word);
            return number != NONE || lexer.wrong(Lexer.UNKNOWN);
        }
    }

    /** Reads an E; a depth is how many of not and ( ) one is within. */
    private static final class LawReader {
        private static final int DEEPEST = 5;

        private final Lexer lexer;

        LawReader(Lexer tape) {
            lexer = tape;
        }

        boolean read(Law law) {
            return readE(law, 0);
        }

        private boolean readE(Law law, int depth) {
            boolean right = readTest(law, depth);
            for (int n = 0; n < TAPE_LENGTH && right && isJoin(Lexer.AND, Lexer.OR); n++) {
                int join = lexer.kind == Lexer.AND ? Law.AND : Law.OR;
                lexer.step();
                right = readTest(law, depth);
                law.add(join);
            }
            return right;
        }

        private boolean readTest(Law law, int depth) {
            boolean right = readSum(law, depth);
            if (right && isJoin('<', '=')) {
                int join = lexer.kind == '<' ? Law.LESS : Law.EQUAL;
                lexer.step();
                right = readSum(law, depth);
                law.add(join);
            }
            return right;
        }

        private boolean readSum(Law law, int depth) {
            boolean right = readProduct(law, depth);
            for (int n = 0; n < TAPE_LENGTH && right && isJoin('+', '-'); n++) {
                int join = lexer.kind == '+' ? Law.PLUS : Law.MINUS;
                lexer.step();
                right = readProduct(law, depth);
                law.add(join);
            }
            return right;
        }

        private boolean readProduct(Law law, int depth) {
            boolean right = readPart(law, depth);
            for (int n = 0; n < TAPE_LENGTH && right && lexer.kind == '*'; n++) {
                lexer.step();
                right = readPart(law, depth);
                law.add(Law.TIMES);
            }
            return right;
        }

        private boolean readPart(Law law, int depth) {
            int kind = lexer.kind;
            boolean plain = kind == Lexer.NUMBER || lexer.isFact();
            if (!plain && kind != Lexer.NOT && kind != '(') {
                return lexer.wrong(Lexer.OUT_OF_PLACE);
            }
            if (depth >= DEEPEST) {
                return lexer.wrong(Lexer.TOO_MANY);
            }
            if (plain) {
                law.add(kind == Lexer.NUMBER ? lexer.number : Law.NTH - (kind - Lexer.NTH));
                lexer.step();
                return true;
            }
            lexer.step();
            if (kind == '(') {
                return readE(law, depth + 1) && lexer.take(')');
            }
            boolean right = readPart(law, depth + 1);
            law.add(Law.NOT);
            return right;
        }

        private boolean isJoin(int one, int other) {
            return lexer.kind == one || lexer.kind == other;
        }
    }
}

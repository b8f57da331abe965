/** The edges of what is, what is done and what is undone, sentence by sentence: promises 1, 5 to 12, 14, 42 and 43. */
public final class StateBoundsTest {
    private static final int NONE = SwapAssize.NONE;
    private static final String THREE = Texts.even(3) + Texts.cases(0, 4, 5, 6);
    private static final String ALL_SEVEN = Texts.even(7) + Texts.cases(0, 1, 2, 3, 4, 5, 6, 7);

    public static void main(String[] args) {
        aNewObject();
        daysOfNothing();
        judge();
        trial();
        rounds();
        heard();
        moreThanJudges();
        chairs();
        giving();
        dealing();
        dealtWhereOneWent();
        hadAtMost();
        plead();
        lean();
        change();
        undo();
        undoTheLastSixteen();
        undoKinds();
        judgedLines();
        judgedOwn();
        judgedFromTheBegin();
        marks();
        markHolds();
        markHoldsWhatIsSeen();
        count();
        refusedCallsLeaveAll();
        Check.end();
    }

    private static int bit(boolean is) {
        return is ? 1 : 0;
    }

    // ---- a new object

    private static void aNewObject() {
        Check.says("SwapAssize(): Nothing; At first: nothing");
        SwapAssize x = new SwapAssize();
        for (int what = 0; what <= 9; what++) {
            Check.due("count(" + what + ")", x.count(what), 0);
        }
        for (int n = -1; n <= 7; n++) {
            Check.due("judge", x.judge(n, 0), NONE);
            Check.due("trial", x.trial(n, 0), -2);
            Check.due("hears", x.hears(n), NONE);
            Check.due("gives", x.gives(n, n), NONE);
            Check.due("best", x.best(n), NONE);
            Check.due("plead", x.plead(n, 0), NONE);
            Check.due("lean", x.lean(n, 0), NONE);
            Check.due("change", x.change(n, n + 1), false);
            Check.due("see", x.see(n, n, true), false);
            Check.due("mark back", x.mark(n, true), false);
        }
        Check.due("undo", x.undo(), false);
        Check.due("judged 0", x.judged(0), NONE);
        Check.due("judged 1", x.judged(1), NONE);
        Check.due("judged 2", x.judged(2), 0);
        Check.due("assize of nothing", x.assize(), 0);
        Check.due("term of nothing", x.term(), 0);
        Check.due("NONE", SwapAssize.NONE, -1);
    }

    private static void daysOfNothing() {
        Check.says("DAY: the next day is held (of nothing, too)");
        SwapAssize x = new SwapAssize();
        for (int n = 1; n <= 5; n++) {
            Check.due("day", x.day(), 0);
            Check.due("next", x.count(2) + 4 * x.count(3), n);
        }
        Check.due("what can be undone", x.count(8), 5);
        Check.due("undo", x.undo(), true);
        Check.due("next", x.count(2) + 4 * x.count(3), 4);
    }

    // ---- of one

    private static void judge() {
        Check.says("Of a JUDGE, what 0: KIND, 1: how they lean, 2: CHAIR; NONE: others");
        SwapAssize seven = Check.of(ALL_SEVEN);
        SwapAssize three = Check.of("judge a same leans 20;judge b mild leans 0;judge c stern leans 1;chairs a c;");
        int[][] want = {{3, 20, 2}, {2, 0, 1}, {1, 1, 0}};
        for (int what = 0; what <= 2; what++) {
            final int which = what;
            for (int judge = 0; judge < 3; judge++) {
                Check.due("judge(" + judge + ", " + what + ")", three.judge(judge, what), want[judge][what]);
            }
            Check.others("judge of three", 0, 2, NONE, n -> three.judge(n, which));
            Check.others("judge of seven", 0, 6, NONE, n -> seven.judge(n, which));
        }
        Check.due("the seventh's kind", seven.judge(6, 0), 0);
        Check.due("the seventh leans", seven.judge(6, 1), 10);
        Check.due("the seventh's chair", seven.judge(6, 2), 6);
        Check.others("what", 0, 2, NONE, what -> seven.judge(0, what));
        Check.others("what of the seventh", 0, 2, NONE, what -> seven.judge(6, what));
    }

    private static void trial() {
        Check.says("Of a CASE, what 0: guilt, 1: its day, 2: what it has HAD, 3: what it GETS; -2: others");
        SwapAssize seven = Check.of(ALL_SEVEN);
        SwapAssize three = Check.of(THREE);
        three.day();
        int[][] want = {{4, 0, 6, 6}, {5, 0, 4, 4}, {6, 0, 5, 5}};
        for (int what = 0; what <= 3; what++) {
            final int which = what;
            for (int trial = 0; trial < 3; trial++) {
                Check.due("trial(" + trial + ", " + what + ")", three.trial(trial, what), want[trial][what]);
            }
            Check.others("trial of three", 0, 2, -2, n -> three.trial(n, which));
            Check.others("trial of seven", 0, 6, -2, n -> seven.trial(n, which));
        }
        Check.due("the seventh's guilt", seven.trial(6, 0), 7);
        Check.due("the seventh gets", seven.trial(6, 3), 6);
        Check.others("what", 0, 3, -2, what -> seven.trial(0, what));
        Check.others("what of the seventh", 0, 3, -2, what -> seven.trial(6, what));
        Check.says("what it GETS (NONE: it is HEARD by nobody)");
        SwapAssize x = Check.of(Texts.even(1) + Texts.cases(2, 0, 0));
        Check.due("it gets 0", x.trial(0, 3), 0);
        Check.due("heard by nobody", x.trial(1, 3), NONE);
        Check.due("no judges", Check.of(Texts.cases(0, 1)).trial(0, 3), NONE);
    }

    // ---- days

    private static void rounds() {
        Check.says("behind day 3 it is day 0 of the next round");
        SwapAssize x = Check.of(THREE);
        for (int n = 0; n <= 41; n++) {
            Check.due("next behind " + n, x.count(2), n % 4);
            Check.due("rounds behind " + n, x.count(3), n / 4);
            Check.due("heard next", x.count(5), n % 4 == 0 ? 7 : 0);
            Check.due("day " + n, x.day(), n % 4 == 0 ? 7 : 0);
        }
    }

    private static void heard() {
        Check.says("DAY: CASES that were HEARD on it, as bits");
        Check.due("seven", Check.of(ALL_SEVEN).day(), 127);
        Check.due("the seventh", Check.of(Texts.even(1) + Texts.cases(1, 1, 1, 1, 1, 1, 1) + Texts.cases(0, 1)).day(), 64);
        Check.due("no judges", Check.of(Texts.cases(0, 1, 2)).day(), 0);
        Check.due("no cases", Check.of(Texts.even(2)).day(), 0);
        Check.due("none is up", Check.of(Texts.even(2) + Texts.cases(1, 1, 2)).day(), 0);
    }

    private static void moreThanJudges() {
        Check.says("if there are more of them than JUDGES the last ones are HEARD by nobody on it, and all stays with them");
        for (int judges = 0; judges <= 7; judges++) {
            SwapAssize x = Check.of(Texts.even(judges) + Texts.cases(0, 1, 2, 3, 4, 5, 6, 7));
            Check.due("heard next by " + judges, x.count(5), (1 << judges) - 1);
            Check.due("heard by " + judges, x.day(), (1 << judges) - 1);
            for (int trial = 0; trial < 7; trial++) {
                int got = trial >= judges ? 0 : trial == 0 ? judges : trial;
                Check.due("had by " + trial + " of " + judges, x.trial(trial, 2), got);
                Check.due("heard by, " + trial + " of " + judges, x.hears(trial), trial < judges ? trial : NONE);
                Check.due("its day stays", x.trial(trial, 1), 0);
            }
        }
    }

    private static void chairs() {
        Check.says("the first of these (by numbers) by the JUDGE in the first chair, and so on");
        SwapAssize x = Check.of(ALL_SEVEN + "chairs ja jg;");
        Check.due("first", x.hears(0), 6);
        Check.due("last", x.hears(6), 0);
        for (int trial = 0; trial < 6; trial++) {
            x.plead(trial, 3);
        }
        Check.due("the seventh is the first of its day", x.hears(6), 6);
        Check.due("the sixth is the sixth", x.hears(5), 5);
        x.plead(3, 0);
        Check.due("by numbers, not by who came first", x.hears(3), 6);
        Check.due("by numbers, not by who came first", x.hears(6), 1);
    }

    // ---- what one would give

    private static void gives(String kind, int leans, int guilt, int want) {
        SwapAssize x = Check.of("judge a " + kind + " leans " + leans + ";case b guilt " + guilt + " on 0;");
        Check.due(kind + " leaning " + leans + " of " + guilt, x.gives(0, 0), want);
        Check.due(kind + " leaning " + leans + " of " + guilt + " got", x.gets(0), want);
    }

    private static void giving() {
        Check.says("a plain one its guilt and what they lean, together, less 10; each 0 at least, 40 at most");
        gives("plain", 0, 0, 0);
        gives("plain", 0, 10, 0);
        gives("plain", 0, 9, 0);
        gives("plain", 0, 11, 1);
        gives("plain", 20, 20, 30);
        Check.says("a stern one that and 5; each 0 at least, 40 at most");
        gives("stern", 0, 0, 0);
        gives("stern", 0, 4, 0);
        gives("stern", 5, 0, 0);
        gives("stern", 6, 0, 1);
        gives("stern", 20, 20, 35);
        Check.says("a mild one half of that, cut, if it is above 0");
        gives("mild", 0, 0, 0);
        gives("mild", 0, 9, 0);
        gives("mild", 0, 10, 0);
        gives("mild", 0, 11, 0);
        gives("mild", 0, 12, 1);
        gives("mild", 0, 13, 1);
        gives("mild", 20, 20, 15);
        Check.says("one who is the same always 10");
        gives("same", 0, 0, 10);
        gives("same", 20, 20, 10);
        gives("same", 0, 20, 10);
        gives("same", 20, 0, 10);
    }

    // ---- dealing

    private static void deals(String e, int... gets) {
        SwapAssize x = Check.of(Texts.even(5) + Texts.cases(0, 1, 2, 3, 4, 5) + "deals " + e + ";");
        for (int n = 0; n < gets.length; n++) {
            Check.due("deals " + e + ": " + n + " gets", x.gets(n), gets[n]);
        }
    }

    private static void dealing() {
        Check.says("by as many places as the E of deals tells, round and round (less than 0: ahead of it)");
        deals("0", 1, 2, 3, 4, 5);
        deals("4", 2, 3, 4, 5, 1);
        deals("5", 1, 2, 3, 4, 5);
        deals("6", 5, 1, 2, 3, 4);
        deals("9999", 2, 3, 4, 5, 1);
        deals("0 - 1", 2, 3, 4, 5, 1);
        deals("0 - 5", 1, 2, 3, 4, 5);
        deals("0 - 8", 4, 5, 1, 2, 3);
        // 2147483647 is 2 behind; one more wraps to -2147483648, which is 3 ahead
        deals("256*256*256*128 - 1", 4, 5, 1, 2, 3);
        deals("256*256*256*128", 4, 5, 1, 2, 3);
        Check.says("The verdicts of the day are DEALT (of one alone)");
        for (String e : new String[] {"0", "1", "7", "0 - 1", "nth", "256*256*256*128"}) {
            SwapAssize x = Check.of(Texts.even(2) + Texts.cases(0, 8) + "deals " + e + ";");
            Check.due("deals " + e + " to one", x.gets(0), 8);
            Check.due("deals " + e + ": its own", x.own(0), 1);
        }
    }

    private static void dealtWhereOneWent() {
        Check.says("or, where one went already, to the next one behind that to which none went (round and round)");
        // all to the last place: the second one's goes to the first place, and so on
        deals("4 - nth", 2, 3, 4, 5, 1);
        deals("0 - nth", 1, 2, 3, 4, 5);
        deals("3 - nth", 3, 4, 5, 1, 2);
        // to 1, 0, 3, 2, 4
        deals("(nth = 0) - (nth = 1) + (nth = 2) - (nth = 3)", 2, 1, 4, 3, 5);
        // to 4, 4 (0), 2, 2 (3), 2 (1)
        deals("4*(nth = 0) + 3*(nth = 1) - (nth = 3) - 2*(nth = 4)", 2, 5, 3, 4, 1);
    }

    /** So much can't be had by 512 calls (35 by two of them), so this makes more. */
    private static void hadAtMost() {
        Check.says("What a CASE gets it has HAD: 9999 at most, together");
        SwapAssize x = Check.of("judge a stern leans 20;judge b stern leans 20;case c guilt 20 on 0;case d guilt 19 on 0;");
        for (int n = 0; n < 285; n++) {
            x.day();
            x.day();
            x.day();
            x.day();
        }
        Check.due("285 times 34", x.trial(0, 2), 9690);
        Check.due("285 times 35", x.trial(1, 2), 9975);
        Check.due("later", x.later(1, 1), 9999);
        Check.due("later, the other one", x.later(0, 1), 9724);
        Check.due("reaches", x.reaches(1, 9999), 1);
        Check.due("grief", x.grief(1), 9999 + 9724);
        x.day();
        Check.due("had", x.trial(1, 2), 9999);
        Check.due("it stays so", x.later(1, 60), 9999);
        Check.due("uneven", x.uneven(), 9999 - 9724);
    }

    // ---- by hand

    private static void plead() {
        Check.says("PLEAD (0 to 3): the day ahead; NONE: others");
        SwapAssize x = Check.of(ALL_SEVEN);
        Check.due("for 3", x.plead(6, 3), 0);
        Check.due("for 0", x.plead(6, 0), 3);
        Check.due("for the same", x.plead(6, 0), 0);
        Check.due("the first", x.plead(0, 1), 0);
        Check.others("plead", 0, 6, NONE, n -> x.plead(n, 1));
        Check.others("plead for", 0, 3, NONE, day -> x.plead(0, day));
        Check.due("what was done", x.count(8), 4);
        SwapAssize y = Check.of(THREE);
        Check.due("the third of three", y.plead(2, 2), 0);
        Check.others("plead of three", 0, 2, NONE, n -> y.plead(n, 1));
        Check.says("PLEAD: a CASE is up on that day from now on");
        Check.due("crowd", y.crowd(2), 4);
        y.plead(2, 0);
        y.day();
        y.plead(2, 0);
        Check.due("its day is over", y.count(5), 0);
        Check.due("today's", y.plead(2, 1), 0);
        Check.due("its day is next", y.count(5), 4);
    }

    private static void lean() {
        Check.says("LEAN (0 to 20): how they leaned ahead; NONE: others");
        SwapAssize x = Check.of(ALL_SEVEN);
        Check.due("to 20", x.lean(6, 20), 10);
        Check.due("to 0", x.lean(6, 0), 20);
        Check.due("to the same", x.lean(6, 0), 0);
        Check.due("the first", x.lean(0, 1), 10);
        Check.others("lean", 0, 6, NONE, n -> x.lean(n, 1));
        Check.others("lean to", 0, 20, NONE, leans -> x.lean(0, leans));
        Check.due("what was done", x.count(8), 4);
        SwapAssize y = Check.of(THREE);
        Check.due("the third of three", y.lean(2, 3), 10);
        Check.others("lean of three", 0, 2, NONE, n -> y.lean(n, 1));
    }

    private static void change() {
        Check.says("CHANGE: true; false: others, the same");
        SwapAssize x = Check.of(ALL_SEVEN);
        Check.due("the first and the last", x.change(0, 6), true);
        Check.due("the last and the first", x.change(6, 0), true);
        Check.others("change", 0, 6, 0, n -> bit(x.change(n, 1)));
        Check.others("change with", 0, 6, 0, n -> bit(x.change(1, n)));
        for (int judge = -1; judge <= 7; judge++) {
            Check.due("with himself " + judge, x.change(judge, judge), false);
        }
        Check.due("what was done", x.count(8), 2);
        SwapAssize y = Check.of(THREE);
        Check.due("of three", y.change(2, 1), true);
        Check.others("change of three", 0, 2, 0, n -> bit(y.change(n, 1)));
        Check.due("of one", Check.of(Texts.even(1)).change(0, 1), false);
        Check.says("who CHANGE have each other's chair then");
        Check.due("chair", x.judge(0, 2), 0);
        x.change(0, 6);
        x.change(6, 3);
        Check.due("chair", x.judge(0, 2) * 100 + x.judge(3, 2) * 10 + x.judge(6, 2), 603);
    }

    // ---- undone

    private static void undo() {
        Check.says("UNDO: true; false: nothing can be");
        SwapAssize x = Check.of(THREE);
        Check.due("nothing was done", x.undo(), false);
        x.plead(0, 4);
        x.lean(0, 21);
        x.change(0, 0);
        x.see(0, 0, true);
        x.mark(0, false);
        Check.term(x, "day;");
        Check.due("nothing that can be", x.undo(), false);
        x.day();
        Check.due("one", x.undo(), true);
        Check.due("no more", x.undo(), false);
        Check.due("seen stays", x.count(7), 1);
        Check.due("the term stays", x.count(6), 1);
        Check.feed(x, "abc");
        x.day();
        x.undo();
        Check.due("the tape stays", x.count(9), 3);
    }

    private static void undoTheLastSixteen() {
        Check.says("UNDO: all of these, the last 16, one by one");
        for (int many : new int[] {1, 15, 16, 17, 31, 32, 33, 48, 100}) {
            SwapAssize x = Check.of(THREE);
            for (int n = 0; n < many; n++) {
                x.day();
            }
            int kept = Math.min(many, 16);
            Check.due(many + " done", x.count(8), kept);
            for (int n = 1; n <= kept; n++) {
                Check.due("undo " + n + " of " + many, x.undo(), true);
                Check.due("days behind undo " + n, x.count(2) + 4 * x.count(3), many - n);
                Check.due("left behind undo " + n, x.count(8), kept - n);
            }
            Check.due("one more of " + many, x.undo(), false);
            Check.due("days stay", x.count(2) + 4 * x.count(3), many - kept);
        }
        SwapAssize x = Check.of(THREE);
        for (int n = 0; n <= 20; n++) {
            x.lean(0, n);
        }
        for (int n = 0; n < 5; n++) {
            x.undo();
        }
        x.lean(0, 3);
        x.lean(0, 4);
        Check.due("undone and done", x.count(8), 13);
        x.undo();
        x.undo();
        x.undo();
        Check.due("one by one", x.judge(0, 1), 14);
    }

    private static void undoKinds() {
        Check.says("UNDO: DAY, PLEAD, LEAN, CHANGE");
        SwapAssize x = Check.of(THREE);
        x.day();
        x.day();
        x.day();
        x.plead(2, 3);
        String[] before = new String[5];
        for (int n = 0; n < 5; n++) {
            before[n] = Texts.all(x);
            switch (n) {
                case 0 -> x.plead(0, 3);
                case 1 -> x.lean(2, 20);
                case 2 -> x.change(0, 2);
                case 3 -> x.day();
                default -> x.plead(0, 3);
            }
        }
        for (int n = 4; n >= 0; n--) {
            Check.due("undo " + n, x.undo(), true);
            Check.due("all behind undo " + n, Texts.all(x), before[n]);
        }
    }

    // ---- told ones judged

    private static void judgedLines() {
        Check.says("JUDGED, what 0, 1: lines (NONE: none), 2: how much; -2: others");
        SwapAssize x = Check.of(Texts.even(2) + "case a guilt 19 on 0;case b guilt 3 on 1;");
        Check.others("what", 0, 2, -2, x::judged);
        for (String none : new String[] {"", "day;", "plead a 3;lean ja 20;change ja jb;", "day;".repeat(40)}) {
            Check.due("term " + none, Check.term(x, none), 0);
            Check.due("no line of 20", x.judged(0), NONE);
            Check.due("no line of its own", x.judged(1), NONE);
        }
        Check.due("ten rounds", x.judged(2), 220);
        Check.term(x, "");
        Check.due("no term", x.judged(2), 0);
        Check.term(x, "plead a 3;");
        Check.due("no day", x.judged(2), 0);
        Check.says("the first line (from 0) by which a CASE gets 20 or more");
        Check.term(x, "lean ja 11;day;");
        Check.due("20", x.judged(0), 1);
        Check.term(x, "lean ja 12;day;");
        Check.due("21", x.judged(0), 1);
        Check.term(x, "day;lean ja 11;day;day;day;day;day;");
        Check.due("behind 19 it is 20", x.judged(0), 5);
        Check.term(x, "day;".repeat(36) + "lean ja 20;plead b 0;plead a 0;day;");
        Check.due("the last line of 40", x.judged(0), 39);
        SwapAssize y = Check.of(Texts.even(2) + "case a guilt 20 on 0;case b guilt 20 on 0;");
        Check.term(y, "day;day;day;day;day;");
        Check.due("the first line, the first one", y.judged(0), 0);
        y = Check.of(Texts.even(2) + Texts.cases(0, 19, 19));
        Check.term(y, "day;day;day;day;day;");
        Check.due("two of 19, and 19 again, are no 20", y.judged(0), NONE);
    }

    private static void judgedOwn() {
        Check.says("the first one by which a CASE gets its own verdict, with another one HEARD, too");
        SwapAssize x = Check.of(Texts.even(2) + "case a guilt 2 on 0;case b guilt 2 on 1;deals many;");
        Check.term(x, "day;day;day;day;");
        Check.due("alone", x.judged(1), NONE);
        Check.term(x, "day;day;plead b 0;day;day;day;");
        Check.due("with another one", x.judged(1), 5);
        x = Check.of(Texts.even(1) + "case a guilt 2 on 0;case b guilt 2 on 0;deals 0;");
        Check.term(x, "day;");
        Check.due("another one is up, not heard", x.judged(1), NONE);
        x = Check.of(Texts.even(2) + "case a guilt 2 on 0;case b guilt 2 on 0;deals 1;");
        Check.term(x, "day;day;day;day;day;");
        Check.due("as much as its own is not its own", x.judged(1), NONE);
    }

    private static void judgedFromTheBegin() {
        Check.says("JUDGED: the TERM from the begin; what all have HAD at last, together");
        SwapAssize x = Check.of(Texts.even(2) + Texts.cases(0, 4, 5) + "chairs ja jb;");
        Check.term(x, "lean jb 9;day;");
        Check.due("as told", x.judged(2), 8);
        x.day();
        x.plead(0, 3);
        x.lean(1, 20);
        x.change(0, 1);
        Check.due("not from now on", x.judged(2), 8);
        String before = Texts.all(x);
        x.judged(0);
        Check.due("nothing is done by it", Texts.all(x), before);
        Check.term(x, "plead cae 2;change ja jb;lean ja 15;day;day;day;day;day;");
        // ja in the first chair gives 5 more: day 0 10, day 2 9, day 0 10
        Check.due("together", x.judged(2), 29);
        Check.due("no 20", x.judged(0), NONE);
    }

    // ---- marks

    private static void marks() {
        Check.says("A MARK is laid (back: gone back to): true; false: none such, nothing is on it (back)");
        SwapAssize x = Check.of(THREE);
        for (int mark = 0; mark < 4; mark++) {
            Check.due("nothing is on " + mark, x.mark(mark, true), false);
            Check.due("laid " + mark, x.mark(mark, false), true);
            Check.due("laid over " + mark, x.mark(mark, false), true);
            Check.due("gone back to " + mark, x.mark(mark, true), true);
            Check.due("gone back to " + mark + " again", x.mark(mark, true), true);
        }
        Check.others("laid", 0, 3, 0, mark -> bit(x.mark(mark, false)));
        Check.others("gone back to", 0, 3, 0, mark -> bit(x.mark(mark, true)));
        SwapAssize y = Check.of(THREE);
        y.day();
        y.mark(2, false);
        for (int mark : new int[] {0, 1, 3}) {
            Check.due("only on 2, not on " + mark, y.mark(mark, true), false);
        }
        Check.due("a refused one takes nothing", y.count(8), 1);
    }

    private static void markHolds() {
        Check.says("MARKS 0 to 3 hold all that UNDO brings back, what is SEEN (nothing can be undone when one is gone back to)");
        for (int mark = 0; mark < 4; mark++) {
            String[] held = new String[4];
            SwapAssize x = marked(held);
            Check.due("eight are seen", x.count(7), 8);
            Check.due("laying leaves what can be undone", x.count(8), 16);
            x.day();
            Check.due("back to " + mark, x.mark(mark, true), true);
            Check.due("all on " + mark, Texts.held(x), held[mark]);
            Check.due("nothing can be undone", x.count(8), 0);
            Check.due("nothing can be undone", x.undo(), false);
        }
        SwapAssize x = marked(new String[4]);
        for (int mark : new int[] {3, 0, 2, 1, 3, 3}) {
            x.day();
            x.lean(6, 20);
            x.plead(6, 2);
            x.mark(mark, true);
            Check.due("day on " + mark, x.count(2) + 4 * x.count(3), mark + 1);
            Check.due("its day on " + mark, x.trial(6, 1), mark);
            Check.due("leaning on " + mark, x.judge(6, 1), mark);
            Check.due("seen on " + mark, x.count(7), 2 * mark + 2);
        }
        Check.due("full again", x.see(0, 0, true), false);
        x.mark(0, true);
        Check.due("room again", x.see(0, 0, true), true);
        Check.due("the mark holds what it did", x.mark(0, true) && x.count(7) == 2, true);
    }

    /** A mark behind each of four days, and what each of them holds. */
    private static SwapAssize marked(String[] held) {
        SwapAssize x = Check.of(ALL_SEVEN);
        for (int mark = 0; mark < 4; mark++) {
            x.day();
            x.plead(6, mark);
            x.lean(6, mark);
            x.change(mark, 6);
            x.see(mark, 6, false);
            x.see(mark, 5, false);
            x.mark(mark, false);
            held[mark] = Texts.held(x);
        }
        return x;
    }

    private static void markHoldsWhatIsSeen() {
        Check.says("MARKS hold what is SEEN (not only how much)");
        SwapAssize x = Check.of(ALL_SEVEN);
        x.mark(0, false);
        x.see(0, 1, true);
        x.see(1, 2, true);
        x.mark(1, false);
        Check.due("dealt by 6", x.shifts(), 64);
        x.mark(0, true);
        Check.due("nothing is seen", x.shifts(), 127);
        x.see(0, 1, false);
        Check.due("not by 6", x.shifts(), 63);
        x.see(3, 3, false);
        x.mark(2, false);
        Check.due("nor by 0", x.shifts(), 62);
        x.mark(1, true);
        Check.due("by 6 again", x.shifts(), 64);
        x.mark(2, true);
        Check.due("not by 6, nor by 0, again", x.shifts(), 62);
        x.mark(1, true);
        Check.due("by 6 once more", x.shifts(), 64);
    }

    // ---- count

    private static void count() {
        Check.says("NONE for another what");
        SwapAssize x = Check.of(ALL_SEVEN);
        Check.others("count", 0, 9, NONE, x::count);
        Check.says("What 0: JUDGES, 1: CASES, 2: the day that is next, 3: the rounds that are over, 4: what all have HAD, together");
        Check.due("judges", x.count(0), 7);
        Check.due("cases", x.count(1), 7);
        for (int n = 0; n < 7; n++) {
            x.day();
        }
        Check.due("next", x.count(2), 3);
        Check.due("rounds that are over", x.count(3), 1);
        Check.due("had", x.count(4), 56);
        x.day();
        Check.due("rounds that are over", x.count(3), 2);
        Check.says("5: CASES that are HEARD on the day that is next, as bits");
        Check.due("all", x.count(5), 127);
        x.plead(0, 1);
        Check.due("not the first", x.count(5), 126);
        Check.due("two of three", Check.of(Texts.even(2) + Texts.cases(0, 1, 2, 3)).count(5), 3);
        Check.says("6: lines of the TERM, 7: SEEN, 8: what can be undone, 9: signs on the TAPE");
        Check.due("undone", x.count(8), 9);
        Check.term(x, "day;".repeat(40));
        Check.due("lines", x.count(6), 40);
        for (int n = 0; n < 9; n++) {
            x.see(n % 7, 0, true);
        }
        Check.due("seen", x.count(7), 8);
        Check.feed(x, " ".repeat(1000));
        Check.due("signs", x.count(9), 1000);
    }

    private static void refusedCallsLeaveAll() {
        Check.says("NONE: others; false: others (a refused call does nothing)");
        SwapAssize x = Check.of(THREE);
        Check.term(x, "day;");
        Check.feed(x, "day");
        x.day();
        for (int n = 0; n < 8; n++) {
            x.see(0, n % 3, false);
        }
        String before = Texts.all(x);
        Check.due("plead", x.plead(3, 0) + x.plead(-1, 0) + x.plead(0, -1) + x.plead(0, 4), 4 * NONE);
        Check.due("plead leaves all", Texts.all(x), before);
        Check.due("lean", x.lean(3, 0) + x.lean(-1, 0) + x.lean(0, -1) + x.lean(0, 21), 4 * NONE);
        Check.due("lean leaves all", Texts.all(x), before);
        Check.due("change", x.change(0, 0) || x.change(0, 3) || x.change(3, 0) || x.change(-1, 0) || x.change(0, -1), false);
        Check.due("change leaves all", Texts.all(x), before);
        Check.due("see", x.see(0, 0, true) || x.see(3, 0, true) || x.see(0, 3, true), false);
        Check.due("see leaves all", Texts.all(x), before);
        Check.due("mark", x.mark(4, false) || x.mark(-1, false) || x.mark(0, true) || x.mark(4, true), false);
        Check.due("mark leaves all", Texts.all(x), before);
        x.undo();
        before = Texts.all(x);
        Check.due("undo", x.undo(), false);
        Check.due("undo leaves all", Texts.all(x), before);
    }
}

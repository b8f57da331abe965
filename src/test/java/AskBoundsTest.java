import java.util.NoSuchElementException;

/** The edges of what is asked, sentence by sentence: promises 13 and 15 to 41. */
public final class AskBoundsTest {
    private static final int NONE = SwapAssize.NONE;
    private static final String THREE = Texts.even(3) + Texts.cases(0, 4, 5, 6);
    private static final String ALL_SEVEN = Texts.even(7) + Texts.cases(0, 1, 2, 3, 4, 5, 6, 7);
    /** One judge, two cases on one day: the second is heard by nobody. */
    private static final String LEFT_OUT = Texts.even(1) + Texts.cases(0, 4, 5);

    public static void main(String[] args) {
        hearsAndGives();
        fromAndGets();
        best();
        bestOfEqualOnes();
        plan();
        planOfSeven();
        lightest();
        own();
        later();
        reaches();
        grief();
        heavy();
        back();
        loops();
        uneven();
        lucky();
        see();
        shifts();
        ask();
        strange();
        swap();
        harshAndMercy();
        crowdAndIdle();
        spared();
        chance();
        chanceInMillionths();
        restsOthers();
        restsOfAll();
        termsOthers();
        termsOfNothing();
        termsOfOne();
        termsByDraws();
        termsOfManyDays();
        askingDoesNothing();
        Check.end();
    }

    private static int bit(boolean is) {
        return is ? 1 : 0;
    }

    // ---- who hears whom, and what one gets

    private static void hearsAndGives() {
        Check.says("HEARS; NONE: others, by nobody");
        SwapAssize seven = Check.of(ALL_SEVEN);
        SwapAssize left = Check.of(LEFT_OUT);
        Check.due("the first", seven.hears(0), 0);
        Check.due("the seventh", seven.hears(6), 6);
        Check.others("hears", 0, 6, NONE, seven::hears);
        Check.others("hears of two", 0, 1, NONE, left::hears);
        Check.due("by the one", left.hears(0), 0);
        Check.due("by nobody", left.hears(1), NONE);
        left.plead(0, 3);
        Check.due("by the one now", left.hears(1), 0);
        Check.due("no judges", Check.of(Texts.cases(0, 1)).hears(0), NONE);
        Check.says("GIVES; NONE: others");
        Check.due("the seventh to the seventh", seven.gives(6, 6), 7);
        Check.due("also if he does not hear it", left.gives(0, 0), 4);
        Check.others("gives", 0, 6, NONE, n -> seven.gives(n, 0));
        Check.others("gives to", 0, 6, NONE, n -> seven.gives(0, n));
        Check.others("the only one gives", 0, 0, NONE, n -> left.gives(n, 0));
        Check.others("the only one gives to", 0, 1, NONE, n -> left.gives(0, n));
        Check.due("no judges", Check.of(Texts.cases(0, 1)).gives(0, 0), NONE);
        Check.due("no cases", Check.of(Texts.even(1)).gives(0, 0), NONE);
    }

    private static void fromAndGets() {
        Check.says("FROM; NONE: others, it is HEARD by nobody");
        SwapAssize seven = Check.of(ALL_SEVEN);
        SwapAssize left = Check.of(LEFT_OUT);
        Check.due("the first one's", seven.from(0), 6);
        Check.due("the last one's", seven.from(6), 5);
        Check.others("from", 0, 6, NONE, seven::from);
        Check.others("from of two", 0, 1, NONE, left::from);
        Check.due("its own", left.from(0), 0);
        Check.due("nobody's", left.from(1), NONE);
        Check.says("GETS; NONE: others, it is HEARD by nobody");
        Check.due("the first", seven.gets(0), 7);
        Check.due("the last", seven.gets(6), 6);
        Check.others("gets", 0, 6, NONE, seven::gets);
        Check.others("gets of two", 0, 1, NONE, left::gets);
        Check.due("its own", left.gets(0), 4);
        Check.due("nothing", left.gets(1), NONE);
        Check.due("0 is something", Check.of(Texts.even(1) + Texts.cases(0, 0)).gets(0), 0);
        Check.says("when its day is held the next time (today's is the next; a day that is over comes again in the next round)");
        SwapAssize x = Check.of(Texts.even(2) + Texts.cases(0, 3, 5) + "deals grief;");
        Check.due("today, by 0", x.gets(0), 3);
        x.day();
        Check.due("three days on, by 8", x.gets(0), 3);
        x.lean(0, 11);
        x.undo();
        x.plead(1, 1);
        Check.due("alone, by 13", x.gets(0), 3);
        x.plead(1, 0);
        x.lean(1, 9);
        Check.due("it is by what was had, not by what would be", x.gets(0), 3);
        x.day();
        x.day();
        x.day();
        Check.due("today again, by 8", x.gets(1), 4);
        x.day();
        Check.due("by 15", x.gets(1), 3);
    }

    private static void best() {
        Check.says("BEST; NONE: others");
        SwapAssize seven = Check.of(ALL_SEVEN);
        Check.others("best", 0, 6, NONE, seven::best);
        SwapAssize three = Check.of(THREE);
        Check.others("best of three", 0, 2, NONE, three::best);
        // all but 0 are alone on other days: 0 gets 7 on day 0, its own 1 on day 1; 6 gets 6 on day 0, 7 elsewhere
        Check.due("the first's", seven.best(0), 1);
        Check.due("the seventh's", seven.best(6), 0);
        Check.says("if nobody HEARS it on that: 0");
        SwapAssize x = Check.of(Texts.even(1) + "case a guilt 1 on 2;case b guilt 1 on 0;");
        Check.due("on day 2 nobody hears it", x.best(1), 2);
        Check.due("ahead of b it is heard", x.best(0), 0);
        x = Check.of(Texts.even(1) + "case a guilt 1 on 3;case b guilt 0 on 0;");
        Check.due("0 is no less by nobody", x.best(1), 0);
        Check.due("no judges", Check.of(Texts.cases(3, 9)).best(0), 0);
    }

    private static void bestOfEqualOnes() {
        Check.says("the day (0 to 3) so as to get the least; of equal ones the first");
        Check.due("alone, all alike", Check.of(Texts.even(1) + Texts.cases(3, 9)).best(0), 0);
        String others = "judge a plain leans 20;judge b plain leans 0;";
        for (int day = 0; day < 4; day++) {
            // behind another one it gets what that one is given, else 10 more than its guilt
            SwapAssize x = Check.of(others + "case o guilt 0 on " + day + ";case p guilt 20 on 0;");
            Check.due("day " + day + " alone is less", x.best(1), day);
            for (int later = day + 1; later < 4; later++) {
                x = Check.of(others + "case o guilt 0 on " + later + ";case q guilt 0 on " + day + ";case p guilt 20 on 0;");
                Check.due("days " + day + " and " + later, x.best(2), day);
            }
        }
        Check.says("held the next time, others staying");
        SwapAssize x = Check.of(others + "case o guilt 0 on 3;case p guilt 20 on 0;");
        x.day();
        Check.due("nothing is pleaded", x.best(1) * 10 + x.trial(1, 1), 30);
    }

    private static void plan() {
        Check.says("PLAN, what NONE: how much; else the day of a CASE; -2: others");
        SwapAssize seven = Check.of(ALL_SEVEN);
        Check.due("how much", seven.plan(NONE), 28);
        Check.due("the seventh's day", seven.plan(6), 0);
        Check.others("plan", NONE, 6, -2, seven::plan);
        SwapAssize three = Check.of(THREE);
        Check.others("plan of three", NONE, 2, -2, three::plan);
        SwapAssize none = Check.of(Texts.even(7));
        Check.due("no cases", none.plan(NONE), 0);
        Check.others("plan of none", NONE, NONE, -2, none::plan);
        SwapAssize nobody = Check.of(Texts.cases(2, 9, 9));
        Check.due("no judges", nobody.plan(NONE), 0);
        Check.due("no judges, its day", nobody.plan(1), 0);
        Check.others("plan by nobody", NONE, 1, -2, nobody::plan);
    }

    private static int row(SwapAssize x) {
        int row = 0;
        for (int trial = 0; trial < x.count(1); trial++) {
            row = 10 * row + x.plan(trial);
        }
        return row;
    }

    private static void planOfSeven() {
        Check.says("the days of all (each 0 to 3) by which what the four days to come give, together, is the least; of equal ones the first row");
        SwapAssize x = Check.of(Texts.even(1) + Texts.cases(0, 9, 1, 1, 1, 1, 1, 1));
        Check.due("one is heard", x.plan(NONE), 9);
        Check.due("all on day 0", row(x), 0);
        // the first chair gives 10 less than the others, and none is heard by nobody: four are the first of a day
        x = Check.of("judge a plain leans 0;" + Texts.even(6) + Texts.cases(0, 20, 20, 20, 20, 20, 20, 20));
        Check.due("four are first", x.plan(NONE), 4 * 10 + 3 * 20);
        Check.due("four are first: the first row", row(x), 123);
        // with three judges those behind them on day 0 are heard by nobody
        x = Check.of("judge a plain leans 0;" + Texts.even(2) + Texts.cases(0, 20, 20, 20, 20, 20, 20, 20));
        Check.due("three are heard", x.plan(NONE), 10 + 20 + 20);
        Check.due("three are heard: the first row", row(x), 0);
        x = Check.of("judge a plain leans 0;" + Texts.cases(3, 20, 20, 20, 20, 20, 20, 20));
        Check.due("one judge", x.plan(NONE), 10);
        Check.due("one judge, all on one day", row(x), 0);
        // the second chair gives 10 less: three days can have a second one
        x = Check.of("judge z plain leans 10;judge y plain leans 0;" + Texts.even(5) + Texts.cases(1, 15, 15, 15, 15, 15, 15, 15));
        Check.due("three are second", x.plan(NONE), 7 * 15 - 3 * 10);
        Check.due("three are second: the first row", row(x), 1122);
        x.day();
        x.day();
        Check.due("from day 2 on", x.plan(NONE), 75);
        Check.due("from day 2 on, the row", row(x), 1122);
    }

    // ---- deals of a day

    private static void lightest() {
        Check.says("LIGHTEST; NONE: others, there is no such deal, none is HEARD");
        SwapAssize x = Check.of(Texts.even(7) + Texts.cases(0, 3) + Texts.cases(3, 5, 9));
        Check.others("lightest", 0, 3, NONE, x::lightest);
        Check.due("of one heard alone", x.lightest(0), NONE);
        Check.due("none is heard", x.lightest(1), NONE);
        Check.due("of two", x.lightest(3), 4);
        Check.due("no judges", Check.of(Texts.cases(0, 1, 2)).lightest(0), NONE);
        Check.due("of two one is heard", Check.of(LEFT_OUT).lightest(0), NONE);
        Check.says("the least of the greatest difference, without its sign, of what one gets and its own");
        Check.due("of seven", Check.of(ALL_SEVEN).lightest(0), 2);
        Check.due("of seven alike", Check.of(Texts.even(7) + Texts.cases(2, 6, 6, 6, 6, 6, 6, 6)).lightest(2), 0);
        SwapAssize both = Check.of(Texts.even(7) + Texts.cases(0, 0, 20, 0, 20, 10) + Texts.cases(1, 5, 5));
        Check.due("of five", both.lightest(0), 10);
        Check.due("of two behind five", both.lightest(1), 0);
        Check.due("of five again", both.lightest(0), 10);
        Check.due("down as well as up", Check.of(Texts.even(7) + Texts.cases(2, 20, 0)).lightest(2), 20);
        // 0 and 35
        Check.due("the most there is", Check.of("judge a stern leans 20;judge b plain leans 0;case c guilt 20 on 0;case d guilt 0 on 0;").lightest(0), 35);
    }

    private static void own() {
        Check.says("OWN, as bits; NONE: others");
        SwapAssize x = Check.of(ALL_SEVEN + "deals 7;");
        Check.others("own", 0, 3, NONE, x::own);
        Check.due("all seven", x.own(0), 127);
        Check.due("none is heard", x.own(3), 0);
        Check.due("none", Check.of(ALL_SEVEN).own(0), 0);
        Check.due("alone", Check.of(LEFT_OUT).own(0), 1);
        Check.due("nothing", new SwapAssize().own(3), 0);
    }

    private static void back() {
        Check.says("BACK; NONE: others, none is HEARD");
        SwapAssize x = Check.of(ALL_SEVEN);
        Check.others("back", 0, 3, NONE, x::back);
        Check.due("none is heard", x.back(1), NONE);
        Check.due("no judges", Check.of(Texts.cases(0, 1)).back(0), NONE);
        Check.says("behind how many deals (1 to 12) all who are HEARD have their own back");
        Check.due("seven", x.back(0), 7);
        Check.due("alone", Check.of(LEFT_OUT).back(0), 1);
        Check.due("all have it at once", Check.of(ALL_SEVEN + "deals 0;").back(0), 1);
        Check.due("three and four", Check.of(ALL_SEVEN + "deals (nth < 2) + (nth < 6 and 2 < nth) - 2 * (nth = 2) - 3 * (nth = 6);").back(0), 12);
        Check.due("two", Check.of(Texts.even(2) + Texts.cases(3, 1, 2)).back(3), 2);
    }

    private static void loops() {
        Check.says("LOOPS (0: none is HEARD); NONE: others");
        SwapAssize x = Check.of(ALL_SEVEN);
        Check.others("loops", 0, 3, NONE, x::loops);
        Check.due("none is heard", x.loops(3), 0);
        Check.due("no judges", Check.of(Texts.cases(0, 1)).loops(0), 0);
        Check.due("one of seven", x.loops(0), 1);
        Check.due("seven of one", Check.of(ALL_SEVEN + "deals 0;").loops(0), 7);
        Check.due("alone", Check.of(LEFT_OUT).loops(0), 1);
        Check.due("two", Check.of(Texts.even(4) + Texts.cases(3, 1, 2, 3, 4) + "deals 2;").loops(3), 2);
    }

    private static void strange() {
        Check.says("STRANGE, how many (0 HEARD: 1); NONE: others");
        int[] want = {1, 0, 1, 2, 9, 44, 265, 1854};
        for (int judges = 0; judges <= 7; judges++) {
            SwapAssize x = Check.of(Texts.even(judges) + Texts.cases(2, 0, 1, 2, 3, 4, 5, 6));
            Check.due("strange of " + judges, x.strange(2), want[judges]);
            Check.due("strange of none", x.strange(3), 1);
            Check.others("strange", 0, 3, NONE, x::strange);
        }
        Check.due("alike ones are not the same", Check.of(Texts.even(3) + Texts.cases(0, 5, 5, 5)).strange(0), 2);
    }

    // ---- days to come

    private static void later() {
        Check.says("LATER; NONE: others; behind so many (0 to 60) days");
        SwapAssize x = Check.of(ALL_SEVEN);
        x.day();
        Check.due("now", x.later(6, 0), 6);
        Check.due("3 days", x.later(6, 3), 6);
        Check.due("4 days", x.later(6, 4), 12);
        Check.due("59 days", x.later(6, 59), 6 * 15);
        Check.due("60 days", x.later(6, 60), 6 * 16);
        Check.others("days", 0, 60, NONE, days -> x.later(6, days));
        Check.others("later", 0, 6, NONE, n -> x.later(n, 0));
        SwapAssize left = Check.of(LEFT_OUT);
        Check.due("heard by nobody", left.later(1, 60), 0);
        Check.others("later of two", 0, 1, NONE, n -> left.later(n, 60));
    }

    private static void reaches() {
        Check.says("REACHES; NONE: others, not by 60; behind how many (0 to 60) days it has HAD so much (0 to 9999)");
        SwapAssize x = Check.of(Texts.even(1) + "case a guilt 2 on 3;case b guilt 0 on 2;");
        Check.due("0", x.reaches(0, 0), 0);
        Check.due("1", x.reaches(0, 1), 4);
        Check.due("2", x.reaches(0, 2), 4);
        Check.due("3", x.reaches(0, 3), 8);
        Check.due("30 by the 60th", x.reaches(0, 30), 60);
        Check.due("31 by the 64th", x.reaches(0, 31), NONE);
        Check.due("9999", x.reaches(0, 9999), NONE);
        Check.due("0 by one who gets nothing", x.reaches(1, 0), 0);
        Check.due("1 by one who gets nothing", x.reaches(1, 1), NONE);
        Check.others("much", 0, 9999, NONE, much -> x.reaches(0, much));
        Check.others("reaches", 0, 1, NONE, n -> x.reaches(n, 0));
        x.day();
        x.day();
        x.day();
        x.day();
        Check.due("it has so much already", x.reaches(0, 2), 0);
        Check.due("one more", x.reaches(0, 3), 4);
        SwapAssize seven = Check.of(ALL_SEVEN);
        Check.due("the seventh", seven.reaches(6, 7), 5);
        Check.others("reaches of seven", 0, 6, NONE, n -> seven.reaches(n, 0));
    }

    private static void grief() {
        Check.says("GRIEF; NONE: others; behind so many (0 to 60) days");
        SwapAssize x = Check.of(ALL_SEVEN);
        x.day();
        Check.due("now", x.grief(0), 28);
        Check.due("3 days", x.grief(3), 28);
        Check.due("4 days", x.grief(4), 56);
        Check.due("60 days", x.grief(60), 28 * 16);
        Check.others("days", 0, 60, NONE, x::grief);
        SwapAssize nothing = new SwapAssize();
        Check.due("nothing", nothing.grief(60), 0);
        Check.others("days of nothing", 0, 60, NONE, nothing::grief);
    }

    private static void heavy() {
        Check.says("HEAVY: the day (0 to 3) on which the most is given, together; of equal ones the first");
        Check.due("nothing", new SwapAssize().heavy(), 0);
        Check.due("nothing is given", Check.of(Texts.even(1) + Texts.cases(3, 0)).heavy(), 0);
        Check.due("day 3", Check.of(Texts.even(1) + Texts.cases(3, 1)).heavy(), 3);
        Check.due("day 0 of all", Check.of(Texts.even(2) + Texts.cases(0, 5) + Texts.cases(1, 3) + Texts.cases(2, 4) + Texts.cases(3, 5)).heavy(), 0);
        Check.due("together", Check.of(Texts.even(2) + Texts.cases(0, 5) + Texts.cases(2, 3, 3)).heavy(), 2);
        Check.due("days 1 and 3", Check.of(Texts.even(1) + Texts.cases(3, 1) + Texts.cases(1, 1)).heavy(), 1);
        Check.due("who is not heard is given nothing", Check.of(Texts.even(1) + Texts.cases(0, 3, 20) + Texts.cases(2, 4)).heavy(), 2);
        SwapAssize x = Check.of(Texts.even(1) + Texts.cases(3, 1) + Texts.cases(1, 1));
        x.day();
        x.day();
        Check.due("the first by its number, not by when", x.heavy(), 1);
    }

    private static void spared() {
        Check.says("SPARED, as bits: CASES that get less than they would by their own");
        Check.due("nothing", new SwapAssize().spared(), 0);
        Check.due("all but the first", Check.of(ALL_SEVEN).spared(), 126);
        Check.due("the seventh", Check.of(ALL_SEVEN + "deals 6;").spared(), 64);
        Check.due("as much is not less", Check.of(Texts.even(3) + Texts.cases(3, 5, 5, 5)).spared(), 0);
        Check.due("its own is not less", Check.of(LEFT_OUT).spared(), 0);
        Check.due("who is not heard gets none", Check.of(Texts.even(2) + Texts.cases(0, 5, 6, 20)).spared(), 2);
        Check.due("of all days", Check.of(Texts.even(2) + Texts.cases(0, 5, 6) + Texts.cases(3, 6, 5)).spared(), 2 + 4);
    }

    // ---- what was had

    private static void uneven() {
        Check.says("UNEVEN (0: no CASES): the most that one has HAD less the least");
        Check.due("nothing", new SwapAssize().uneven(), 0);
        SwapAssize none = Check.of(Texts.even(7));
        none.day();
        Check.due("no cases", none.uneven(), 0);
        SwapAssize x = Check.of(ALL_SEVEN);
        Check.due("nothing was had", x.uneven(), 0);
        x.day();
        Check.due("7 less 1", x.uneven(), 6);
        SwapAssize left = Check.of(LEFT_OUT);
        left.day();
        Check.due("who is not heard has had 0", left.uneven(), 4);
        SwapAssize one = Check.of(Texts.even(1) + Texts.cases(0, 5));
        one.day();
        Check.due("of one", one.uneven(), 0);
    }

    private static void lucky() {
        Check.says("LUCKY; NONE: no CASES; of equal ones the first");
        Check.due("nothing", new SwapAssize().lucky(), NONE);
        Check.due("no cases", Check.of(Texts.even(7)).lucky(), NONE);
        SwapAssize x = Check.of(ALL_SEVEN);
        Check.due("all alike", x.lucky(), 0);
        Check.says("what it has HAD, less its guilt times the rounds that are over, is the least");
        x.day();
        Check.due("no round is over: who has had 1", x.lucky(), 1);
        x.day();
        x.day();
        Check.due("still none", x.lucky(), 1);
        x.day();
        // 7 - 1, then 1 less each
        Check.due("a round is over", x.lucky(), 1);
        SwapAssize left = Check.of(Texts.even(1) + Texts.cases(0, 1, 2, 3));
        left.day();
        Check.due("none had, the first of two", left.lucky(), 1);
        left.day();
        left.day();
        Check.due("the round is not over", left.lucky(), 1);
        left.day();
        Check.due("the round is over: 0 less 3", left.lucky(), 2);
    }

    // ---- how far it was dealt

    private static void see() {
        Check.says("SEEN: true; false: others, 8 there are");
        SwapAssize x = Check.of(ALL_SEVEN);
        Check.others("see", 0, 6, 0, n -> bit(x.see(n, 0, true)));
        Check.others("see of", 0, 6, 0, n -> bit(x.see(0, n, true)));
        Check.due("others are not seen", x.count(7), 0);
        for (int n = 0; n < 8; n++) {
            Check.due("see " + n, x.see(6, 6, true), true);
            Check.due("seen", x.count(7), n + 1);
        }
        Check.due("a ninth", x.see(6, 6, true), false);
        Check.due("a ninth", x.see(0, 0, false), false);
        Check.due("eight", x.count(7), 8);
        Check.due("the ninth says nothing", x.shifts(), 1);
        SwapAssize two = Check.of(LEFT_OUT);
        Check.others("see of two", 0, 1, 0, n -> bit(two.see(n, 0, true)));
        Check.others("see of the one judge", 0, 0, 0, n -> bit(two.see(0, n, true)));
        Check.due("who is not heard can be seen", two.see(1, 0, false), true);
    }

    private static void shifts() {
        Check.says("SHIFTS by which all SEEN is so (bits, 0 to 6)");
        Check.due("nothing is told", new SwapAssize().shifts(), 127);
        for (int judge = 0; judge < 7; judge++) {
            SwapAssize x = Check.of(ALL_SEVEN);
            Check.due("nothing is seen", x.shifts(), 127);
            x.see(0, judge, true);
            Check.due("got from " + judge, x.shifts(), 1 << (7 - judge) % 7);
            x.see(0, judge, false);
            Check.due("and not", x.shifts(), 0);
        }
        SwapAssize x = Check.of(Texts.even(2) + Texts.cases(0, 1, 2));
        x.see(0, 0, true);
        Check.due("round and round", x.shifts(), 1 + 4 + 16 + 64);
        SwapAssize seven = Check.of(ALL_SEVEN);
        for (int judge = 0; judge < 7; judge++) {
            seven.see(6, judge, false);
            Check.due("not from " + judge, seven.shifts(), 127 & ~((1 << 7) - (1 << 6 - judge)));
        }
        Check.says("of a CASE that nobody HEARS none is got");
        x = Check.of(LEFT_OUT);
        x.see(1, 0, false);
        Check.due("it got none", x.shifts(), 127);
        x.see(1, 0, true);
        Check.due("it got one", x.shifts(), 0);
        Check.says("days and chairs as they are when it is asked");
        x = Check.of(LEFT_OUT);
        x.see(1, 0, true);
        x.plead(0, 1);
        Check.due("now it is heard", x.shifts(), 127);
        x = Check.of(Texts.even(3) + Texts.cases(0, 1, 2));
        x.see(0, 2, true);
        Check.due("one who hears nobody", x.shifts(), 0);
        x.change(2, 0);
        Check.due("now he does", x.shifts(), 1 + 4 + 16 + 64);
    }

    private static void ask() {
        Check.says("ASK, as 8 * the CASE + the JUDGE; NONE: none parts them");
        Check.due("nothing", new SwapAssize().ask(), NONE);
        Check.due("no judges", Check.of(Texts.cases(0, 1, 2)).ask(), NONE);
        Check.due("no cases", Check.of(Texts.even(2)).ask(), NONE);
        Check.due("alone", Check.of(LEFT_OUT).ask(), NONE);
        SwapAssize x = Check.of(ALL_SEVEN);
        Check.due("6 to 1", x.ask(), 0);
        x.see(0, 0, true);
        Check.due("one is left", x.ask(), NONE);
        x.see(0, 0, false);
        Check.due("none is left", x.ask(), NONE);
        SwapAssize last = Check.of(Texts.even(7) + "case a guilt 1 on 0;case b guilt 1 on 1;case c guilt 1 on 2;case d guilt 1 on 3;"
            + Texts.cases(3, 1));
        Check.due("the fourth and the fifth", last.ask(), 8 * 3);
        last.change(0, 6);
        last.change(1, 5);
        // by the sixth or the seventh in chairs 1 and 0: 3 to 4 each
        Check.due("the first one of them", last.ask(), 8 * 3 + 5);
        Check.says("if that is less than all; of equal ones the first CASE, then JUDGE");
        SwapAssize two = Check.of(Texts.even(2) + Texts.cases(0, 1, 2));
        two.see(0, 0, true);
        Check.due("even ones alone", two.ask(), NONE);
        SwapAssize mixed = Check.of(Texts.even(3) + "case a guilt 1 on 1;case b guilt 1 on 1;" + Texts.cases(3, 1, 1, 1));
        Check.due("4 to 3 ahead of 3 to 4", mixed.ask(), 0);
        mixed.see(0, 0, true);
        // 0 2 4 6: of three, 0 and 6 bring one's own, 4 the one ahead, 2 the one behind
        Check.due("2 to 2", mixed.ask(), 8 * 2);
    }

    // ---- judges

    private static void swap() {
        Check.says("SWAP; NONE: none is better (8 * the lesser + the other one); of equal ones the first pair");
        Check.due("nothing", new SwapAssize().swap(), NONE);
        Check.due("one judge", Check.of(LEFT_OUT).swap(), NONE);
        Check.due("all alike", Check.of(ALL_SEVEN).swap(), NONE);
        Check.due("no cases", Check.of("judge a plain leans 9;judge b plain leans 1;").swap(), NONE);
        SwapAssize x = Check.of(Texts.even(7) + Texts.cases(3, 15));
        x.lean(6, 9);
        Check.due("the first and the seventh", x.swap(), 6);
        x.change(0, 6);
        Check.due("none is better", x.swap(), NONE);
        x.lean(5, 8);
        Check.due("the sixth and the seventh, who sits first", x.swap(), 8 * 5 + 6);
        x.lean(1, 8);
        Check.due("of equal ones", x.swap(), 8 + 6);
        x.lean(1, 9);
        x.lean(5, 9);
        Check.due("as little is not less", x.swap(), NONE);
        Check.says("SWAP: so that what the four days to come give, together, is the least");
        // a gives 10 to each who is the first of a day, b the guilt of the second of day 0
        x = Check.of("judge a same leans 0;judge b plain leans 10;case c guilt 2 on 0;case d guilt 20 on 0;case e guilt 4 on 1;case f guilt 12 on 3;");
        Check.due("30 and 20, or 2, 4, 12 and 10", x.swap(), 1);
        x.plead(2, 2);
        x.plead(3, 2);
        // 10 and 20, 10 and 12, or 2 and 10, 4 and 10
        Check.due("52 or 26", x.swap(), 1);
        x.change(0, 1);
        Check.due("26 or 52", x.swap(), NONE);
        x = Check.of("judge a same leans 0;judge b plain leans 10;case c guilt 9 on 0;case d guilt 9 on 1;case e guilt 9 on 2;case f guilt 13 on 3;");
        Check.due("day 3 as much as the others", x.swap(), NONE);
        x = Check.of("judge a same leans 0;judge b plain leans 10;case c guilt 13 on 0;case d guilt 9 on 1;case e guilt 9 on 2;case f guilt 9 on 3;");
        Check.due("day 0 as much as the others", x.swap(), NONE);
        x.plead(0, 3);
        Check.due("the first of day 3 gets more than the others less", x.swap(), NONE);
    }

    private static void harshAndMercy() {
        Check.says("HARSH; NONE: no JUDGES; of equal ones the first");
        Check.due("nothing", new SwapAssize().harsh(), NONE);
        Check.due("no judges", Check.of(Texts.cases(0, 1)).harsh(), NONE);
        Check.due("no cases", Check.of("judge a plain leans 0;judge b plain leans 20;").harsh(), 0);
        SwapAssize x = Check.of(ALL_SEVEN);
        Check.due("all alike", x.harsh(), 0);
        x.lean(6, 11);
        Check.due("the seventh", x.harsh(), 6);
        x.lean(3, 11);
        Check.due("the fourth as much", x.harsh(), 3);
        Check.due("the first case, too", Check.of("judge a plain leans 10;judge b same leans 0;case c guilt 18 on 0;case d guilt 3 on 1;").harsh(), 0);
        Check.due("together", Check.of("judge a plain leans 10;judge b same leans 0;case c guilt 18 on 0;case d guilt 1 on 1;").harsh(), 1);
        Check.due("all cases, up or not", Check.of("judge a plain leans 10;judge b same leans 0;case c guilt 3 on 0;case d guilt 18 on 1;").harsh(), 0);
        Check.says("MERCY; NONE: others, no JUDGES; of equal ones the first");
        Check.others("mercy", 0, 6, NONE, x::mercy);
        Check.due("no judges", Check.of(Texts.cases(0, 1)).mercy(0), NONE);
        Check.due("all alike but two", x.mercy(6), 0);
        x.lean(0, 11);
        Check.due("the second", x.mercy(6), 1);
        x.lean(6, 0);
        Check.due("the seventh", x.mercy(0), 6);
        SwapAssize left = Check.of(LEFT_OUT);
        Check.due("of one", left.mercy(1), 0);
        Check.others("mercy of two", 0, 1, NONE, left::mercy);
    }

    private static void crowdAndIdle() {
        Check.says("CROWD, as bits; NONE: others");
        SwapAssize seven = Check.of(ALL_SEVEN);
        Check.others("crowd", 0, 3, NONE, seven::crowd);
        Check.due("seven", seven.crowd(0), 127);
        Check.due("none", seven.crowd(3), 0);
        seven.plead(6, 3);
        Check.due("the seventh", seven.crowd(3), 64);
        Check.due("up, not heard", Check.of(Texts.cases(1, 1, 2)).crowd(1), 3);
        Check.due("nothing", new SwapAssize().crowd(0), 0);
        Check.says("IDLE, as bits: JUDGES who HEAR nobody on any day");
        Check.due("nothing", new SwapAssize().idle(), 0);
        Check.due("no cases", Check.of(Texts.even(7)).idle(), 127);
        Check.due("none", Check.of(ALL_SEVEN).idle(), 0);
        Check.due("the last one", seven.idle(), 64);
        seven.change(0, 6);
        Check.due("who sits last", seven.idle(), 1);
        Check.due("fewer than cases", Check.of(LEFT_OUT).idle(), 0);
        Check.due("day 3 alone", Check.of(Texts.even(3) + Texts.cases(3, 1, 2)).idle(), 4);
    }

    // ---- chance

    private static void chance() {
        Check.says("CHANCE, by odds (0 to 10); NONE: others, it is HEARD by nobody");
        SwapAssize x = Check.of(Texts.even(2) + "case a guilt 3 on 0;case b guilt 5 on 0;case c guilt 9 on 0;");
        Check.others("chance", 0, 2, NONE, n -> x.chance(n, 1, 5));
        Check.others("much", 1, 40, NONE, much -> x.chance(0, much, 5));
        Check.others("odds", 0, 10, NONE, odds -> x.chance(0, 1, odds));
        Check.due("heard by nobody", x.chance(2, 1, 5), NONE);
        Check.due("heard by nobody, whatever it is", x.chance(2, 40, 10), NONE);
        SwapAssize seven = Check.of(ALL_SEVEN);
        Check.due("the seventh", seven.chance(6, 6, 10), 1000000);
        Check.others("chance of seven", 0, 6, NONE, n -> seven.chance(n, 1, 5));
        Check.says("that it gets so much (1 to 40) or more");
        Check.due("1", x.chance(0, 1, 5), 1000000);
        Check.due("3", x.chance(0, 3, 5), 1000000);
        Check.due("4 as dealt", x.chance(0, 4, 10), 1000000);
        Check.due("5 as dealt", x.chance(0, 5, 10), 1000000);
        Check.due("6 as dealt", x.chance(0, 6, 10), 0);
        Check.due("40", x.chance(0, 40, 0), 0);
        SwapAssize harsh = Check.of("judge a stern leans 20;case b guilt 20 on 0;");
        Check.due("35", harsh.chance(0, 35, 3), 1000000);
        Check.due("36", harsh.chance(0, 36, 3), 0);
        Check.due("0 is not 1", Check.of("judge a plain leans 0;case b guilt 0 on 0;").chance(0, 1, 10), 0);
    }

    private static void chanceInMillionths() {
        Check.says("else all by one number of places, 0 to 6, each of these alike; in millionths, cut");
        SwapAssize x = Check.of(Texts.even(2) + Texts.cases(0, 3, 5));
        // a gets 5 by 1, 3 and 5 places, and as it is dealt; b by 0, 2, 4 and 6
        int[] a = {428571, 485714, 542857, 600000, 657142, 714285, 771428, 828571, 885714, 942857, 1000000};
        int[] b = {571428, 514285, 457142, 400000, 342857, 285714, 228571, 171428, 114285, 57142, 0};
        for (int odds = 0; odds <= 10; odds++) {
            Check.due("a by " + odds, x.chance(0, 5, odds), a[odds]);
            Check.due("b by " + odds, x.chance(1, 5, odds), b[odds]);
        }
        Check.due("one of seven", Check.of(ALL_SEVEN).chance(3, 7, 0), 142857);
        Check.due("six of seven", Check.of(ALL_SEVEN).chance(3, 2, 0), 857142);
    }

    // ---- mercy at rest

    private static int rests(int both, int loses, int gains, int what) {
        try {
            return new SwapAssize().rests(both, loses, gains, what);
        } catch (NoSuchElementException e) {
            return -9;
        }
    }

    private static void restsOthers() {
        Check.says("NoSuchElementException: others, none such");
        for (int what = NONE; what <= 0; what++) {
            final int which = what;
            Check.others("both", 0, 9, -9, n -> rests(n, 1, 1, which));
            Check.others("loses", 0, 9, -9, n -> rests(1, n, 1, which));
            Check.others("gains", 0, 9, -9, n -> rests(1, 1, n, which));
        }
        Check.others("what of one", NONE, 0, -9, what -> rests(0, 1, 1, what));
        Check.others("what of two", NONE, 1, -9, what -> rests(1, 1, 1, what));
        Check.others("what of three", NONE, 2, -9, what -> rests(0, 0, 1, what));
        Check.others("what of four", NONE, 3, -9, what -> rests(1, 0, 1, what));
        Check.due("all least", rests(0, 0, 0, NONE), 4);
        Check.due("all most", rests(9, 9, 9, NONE), 2);
    }

    /** What the first one and the other one get, by 2 * the first one's choice + the other one's. */
    private static void restsOfAll() {
        Check.says("RESTS: by which neither would get more by the other; i: the i-th (1 mild; the least first)");
        for (int both = 0; both <= 9; both++) {
            for (int loses = 0; loses <= 9; loses++) {
                for (int gains = 0; gains <= 9; gains++) {
                    int[] first = {0, gains, -loses, both};
                    int[] other = {0, -loses, gains, both};
                    String call = "rests(" + both + ", " + loses + ", " + gains + ")";
                    int found = 0;
                    for (int choices = 0; choices < 4; choices++) {
                        if (first[choices] >= first[choices ^ 2] && other[choices] >= other[choices ^ 1]) {
                            Check.due(call + " " + found, rests(both, loses, gains, found), choices);
                            found++;
                        }
                    }
                    Check.due(call, rests(both, loses, gains, NONE), found);
                    Check.due(call + " one more", rests(both, loses, gains, found), -9);
                }
            }
        }
    }

    // ---- terms by draws

    private static void termsOthers() {
        Check.says("TERMS by a SEED (0 to 9999), of so many (1 to 99) days, what 0, 1, 2; -2: others");
        SwapAssize x = Check.of(THREE);
        for (int what = 0; what <= 2; what++) {
            final int which = what;
            Check.others("seed", 0, 9999, -2, seed -> x.terms(seed, 1, which));
            Check.others("days", 1, 99, -2, days -> x.terms(0, days, which));
            for (int seed : new int[] {0, 1, 9998, 9999}) {
                for (int days : new int[] {1, 2, 98, 99}) {
                    Check.due("terms(" + seed + ", " + days + ", " + what + ") is told", x.terms(seed, days, what) >= 0, true);
                }
            }
        }
        Check.others("what", 0, 2, -2, what -> x.terms(0, 1, what));
        SwapAssize nothing = new SwapAssize();
        Check.others("seed of nothing", 0, 9999, -2, seed -> nothing.terms(seed, 1, 2));
        Check.others("days of nothing", 1, 99, -2, days -> nothing.terms(0, days, 2));
        Check.others("what of nothing", 0, 2, -2, what -> nothing.terms(0, 1, what));
    }

    private static void termsOfNothing() {
        Check.says("if there are JUDGES and CASES; then, also without these, the day; (NONE: no JUDGES)");
        SwapAssize x = new SwapAssize();
        Check.due("how much of nothing", x.terms(5, 99, 0), 0);
        Check.due("the most of nothing", x.terms(5, 99, 1), 0);
        Check.due("who of nothing", x.terms(5, 99, 2), NONE);
        x = Check.of("judge a plain leans 7;judge b plain leans 7;judge c plain leans 8;");
        for (int seed = 0; seed < 40; seed++) {
            Check.due("no cases: nobody leans otherwise", x.terms(seed, 99, 2), 2);
        }
        Check.due("no cases, how much", x.terms(5, 99, 0), 0);
        x = Check.of(Texts.cases(0, 9));
        Check.due("no judges, how much", x.terms(5, 99, 0), 0);
        Check.due("no judges, who", x.terms(5, 99, 2), NONE);
        Check.says("who leans the most at last, the first of equal ones");
        // seed 1 draws 16838, 5758, 10113, 3 modulo 5 each: nothing
        x = Check.of(ALL_SEVEN);
        Check.due("all alike", x.terms(1, 3, 2), 0);
        x.lean(6, 11);
        Check.due("the seventh", x.terms(1, 3, 2), 6);
        x.lean(5, 11);
        Check.due("the sixth as much", x.terms(1, 3, 2), 5);
    }

    private static void termsOfOne() {
        Check.says("what all have HAD by these, together; the most that one has HAD at last; from now on (all is as ahead then)");
        // seed 1 draws, modulo 5: 3, 3, 3, then 17515: 0, of one case 0, for 5627 modulo 4: 3
        SwapAssize x = Check.of(Texts.even(1) + Texts.cases(0, 5));
        int[] much = {5, 5, 5, 10};
        for (int days = 1; days <= 4; days++) {
            Check.due("much by " + days, x.terms(1, days, 0), much[days - 1]);
            Check.due("most by " + days, x.terms(1, days, 1), much[days - 1]);
        }
        Check.due("as ahead", x.trial(0, 1) + x.count(2) + x.count(4) + x.count(8), 0);
        x.day();
        x.day();
        x.day();
        x.day();
        Check.due("by these", x.terms(1, 1, 0), 5);
        Check.due("at last", x.terms(1, 1, 1), 10);
        x.day();
        Check.due("by none of these", x.terms(1, 3, 0), 0);
        Check.due("at last, by the days ahead", x.terms(1, 3, 1), 10);
    }

    private static void termsByDraws() {
        Check.says("1: one below JUDGES LEANS to a DRAW below 21");
        SwapAssize x = Check.of(Texts.even(1) + Texts.cases(0, 15));
        Check.due("to 10037 modulo 21: 20", x.terms(261, 1, 0), 25);
        Check.due("to 16023 modulo 21: 0", x.terms(48, 1, 0), 5);
        SwapAssize seven = Check.of(ALL_SEVEN);
        Check.due("the seventh to 20", seven.terms(839, 1, 2), 6);
        Check.due("the seventh gives 10 more", seven.terms(839, 1, 0), 38);
        Check.says("0: one below CASES PLEADS for a DRAW below 4");
        SwapAssize late = Check.of(Texts.even(7) + Texts.cases(1, 1, 2, 3, 4, 5, 6, 7));
        Check.due("the seventh for 0", late.terms(0, 1, 0), 7);
        Check.due("the seventh for 3", seven.terms(442, 1, 0), 21);
        Check.says("2: one below JUDGES, one more: these CHANGE, if they are not the same");
        // the first one gives 1 to the first, the last one 7 to the last; changed, and leaning 12 and 8, 1 - 2 (0) and 7 + 2
        seven.lean(0, 12);
        seven.lean(6, 8);
        Check.due("the seventh with himself", seven.terms(159, 1, 0), 28);
        Check.due("the first with the seventh", seven.terms(235, 1, 0), 29);
        Check.says("a DRAW below 5 (3 and 4: nothing)");
        Check.due("3", seven.terms(2, 1, 0), 28);
        Check.due("4", seven.terms(7, 1, 0), 28);
    }

    /** As a program by itself, in another language, told them. */
    private static void termsOfManyDays() {
        Check.says("g becomes (g * 1103515245 + 12345) modulo 2147483648; it is g / 65536, cut, modulo m");
        int[][] want = {{0, 28, 7, 0, 968, 200, 0, 970, 200, 0}, {1, 28, 7, 0, 853, 183, 3, 857, 183, 3},
            {9998, 24, 7, 0, 1331, 227, 2, 1368, 241, 2}, {9999, 38, 13, 2, 773, 193, 4, 774, 193, 4}};
        int[] days = {1, 98, 99};
        SwapAssize x = Check.of(ALL_SEVEN);
        for (int[] row : want) {
            for (int n = 1; n < row.length; n++) {
                int what = (n - 1) % 3;
                int many = days[(n - 1) / 3];
                Check.due("terms(" + row[0] + ", " + many + ", " + what + ")", x.terms(row[0], many, what), row[n]);
            }
        }
    }

    private static SwapAssize busy() {
        SwapAssize x = Check.of(ALL_SEVEN + "deals grief + nth;");
        x.day();
        x.plead(3, 2);
        x.see(0, 0, false);
        Check.term(x, "day;lean ja 20;day;");
        return x;
    }

    private static void askingDoesNothing() {
        Check.says("As all is now; nothing else being done");
        SwapAssize x = busy();
        String before = Texts.all(x);
        for (int n = 0; n < 7; n++) {
            x.hears(n);
            x.gives(n, n);
            x.from(n);
            x.gets(n);
            x.best(n);
            x.plan(n);
            x.mercy(n);
            x.later(n, 60);
            x.reaches(n, 9999);
            x.chance(n, 9, 5);
        }
        Check.due("all behind what is asked of one", Texts.all(x), before);
        x = busy();
        for (int day = 0; day < 4; day++) {
            x.lightest(day);
            x.own(day);
            x.back(day);
            x.loops(day);
            x.strange(day);
            x.crowd(day);
        }
        Check.due("all behind what is asked of days", Texts.all(x), before);
        x = busy();
        x.plan(NONE);
        x.grief(60);
        x.heavy();
        x.spared();
        x.swap();
        x.ask();
        x.judged(0);
        x.terms(77, 99, 0);
        x.rests(1, 1, 1, NONE);
        Check.due("all behind the rest", Texts.all(x), before);
    }
}

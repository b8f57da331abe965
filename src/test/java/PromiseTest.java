import java.util.NoSuchElementException;

/** Each promise of the document by itself: ordinary inputs, edges, wrong inputs; the answers are worked out by hand. */
public final class PromiseTest {
    private static final int NONE = SwapAssize.NONE;

    /**
     * What each would give (duck, libel, drain, boot, hat, pie):
     * ann 6 22 12 10 17 2; bea 4 20 10 8 15 0; cal 7 15 10 9 12 5; dot 10 always.
     * Day 0 gives 6, 20, 10; day 1 gives 10, 15; day 2 gives 2.
     */
    private static final String BASE = "judge ann plain leans 12 ; judge bea stern leans 5 ; judge cal mild leans 20 ;"
        + " judge dot same leans 0 ; case duck guilt 4 on 0 ; case libel guilt 20 on 0 ; case drain guilt 10 on 0 ;"
        + " case boot guilt 8 on 1 ; case hat guilt 15 on 1 ; case pie guilt 0 on 2 ;";

    public static void main(String[] args) {
        aNewObject();
        feed();
        assize();
        assizeFaults();
        lawFaults();
        laws();
        term();
        termFaults();
        judge();
        trial();
        day();
        plead();
        lean();
        change();
        undo();
        judged();
        hears();
        gives();
        fromAndGets();
        best();
        plan();
        lightest();
        own();
        later();
        reaches();
        grief();
        heavy();
        backAndLoops();
        unevenAndLucky();
        see();
        shiftsAndAsk();
        strange();
        swap();
        harshAndMercy();
        crowdAndIdle();
        spared();
        chance();
        rests();
        terms();
        mark();
        count();
        Check.end();
    }

    private static void aNewObject() {
        SwapAssize x = new SwapAssize();
        for (int what = 0; what <= 9; what++) {
            Check.due("new: count(" + what + ")", x.count(what), 0);
        }
        Check.due("new: judge", x.judge(0, 0), NONE);
        Check.due("new: trial", x.trial(0, 3), -2);
        Check.due("new: hears", x.hears(0), NONE);
        Check.due("new: undo", x.undo(), false);
        Check.due("new: heavy", x.heavy(), 0);
        Check.due("new: shifts", x.shifts(), 127);
        Check.due("new: mark back", x.mark(3, true), false);
        Check.due("new: plan", x.plan(NONE), 0);
        Check.due("new: NONE", SwapAssize.NONE, -1);
    }

    private static void feed() {
        SwapAssize x = new SwapAssize();
        Check.due("feed nothing", x.feed(0, 0, 0), 0);
        Check.due("feed edges", x.feed(0x0a207e7f001f80ffL, 0x090b0d0a20210c7eL, 0x8a9fa07f7fff0000L), 7);
        Check.due("feed: on the tape", x.count(9), 7);
        Check.due("feed: read up to ~", x.assize(), 1 + 16 * 2);
        Check.due("feed: taken", x.count(9), 0);
        Check.due("feed: highest first", x.feed(0x6100000000000000L, 0x62L, 0x2020L), 4);
        Check.due("feed: it is one word", x.assize(), 1);
        StringBuilder blanks = new StringBuilder();
        while (blanks.length() < 984) {
            blanks.append(' ');
        }
        Check.due("feed 984", Check.feed(x, blanks.toString()), 984);
        Check.due("feed 15 more", Check.feed(x, "\n".repeat(15)), 999);
        Check.due("feed one over", Check.feed(x, "*+"), 1000);
        Check.due("feed at 1000", Check.feed(x, "judge"), 1000);
        Check.due("feed: the first 1000 stay", x.assize(), 1 + 16 * 999);
        Check.feed(x, blanks + "                ;;");
        Check.due("feed: nothing over 1000 is read", x.assize(), 0);
        Check.feed(x, "dea");
        Check.feed(x, "ls 0;");
        Check.due("feed: behind the tape", x.assize(), 0);
    }

    private static void assize() {
        SwapAssize x = Check.of(BASE);
        Check.due("assize: judges", x.count(0), 4);
        Check.due("assize: cases", x.count(1), 6);
        x.day();
        x.lean(0, 3);
        Check.term(x, "day;");
        x.see(0, 0, true);
        x.mark(2, false);
        Check.due("assize: fault", Check.assize(x, "judge a plain leans 3; !"), 1 + 16 * 23);
        Check.due("assize: all stays, judges", x.count(0), 4);
        Check.due("assize: all stays, day", x.count(2), 1);
        Check.due("assize: all stays, lean", x.judge(0, 1), 3);
        Check.due("assize: all stays, term", x.count(6), 1);
        Check.due("assize: all stays, seen", x.count(7), 1);
        Check.due("assize: all stays, undo", x.count(8), 2);
        Check.due("assize: the tape is taken", x.count(9), 0);
        Check.due("assize: all stays, mark", x.mark(2, true), true);
        x.day();
        Check.due("assize: another", Check.assize(x, "judge nth same leans 0;\njudge\nmany\nmild\nleans0007;judge abcdefgh stern leans 20;"
            + "case today guilt 20on 3;case grief guilt 0 on 0;chairs nth many;chairs many abcdefgh;"), 0);
        Check.due("assize: another's judges", x.count(0), 3);
        Check.due("assize: another's cases", x.count(1), 2);
        Check.due("assize: kind", x.judge(0, 0), 3);
        Check.due("assize: kind", x.judge(1, 0), 2);
        Check.due("assize: leans", x.judge(1, 1), 7);
        Check.due("assize: kind", x.judge(2, 0), 1);
        Check.due("assize: chair", x.judge(0, 2), 1);
        Check.due("assize: chair", x.judge(1, 2), 2);
        Check.due("assize: chair", x.judge(2, 2), 0);
        Check.due("assize: guilt", x.trial(0, 0), 20);
        Check.due("assize: day", x.trial(0, 1), 3);
        Check.due("assize: had", x.trial(0, 2), 0);
        for (int what = 2; what <= 9; what++) {
            Check.due("assize: anew, count(" + what + ")", x.count(what), what == 5 ? 2 : 0);
        }
        Check.due("assize: no mark", x.mark(2, true), false);
        Check.due("assize: an empty one", x.assize(), 0);
        Check.due("assize: empty", x.count(0) + x.count(1), 0);
        x = Check.of(Texts.even(7) + Texts.cases(1, 1, 2, 3, 4, 5, 6, 7));
        Check.due("assize: seven", x.count(0) * 8 + x.count(1), 63);
        nothingIsLeftOver();
    }

    /** Neither of the last ASSIZE nor of the one before it. */
    private static void nothingIsLeftOver() {
        SwapAssize x = new SwapAssize();
        for (int n = 0; n < 3; n++) {
            Check.due("assize: told anew", Check.assize(x, Texts.even(3) + Texts.cases(0, 1, 2, 3) + "chairs ja jb;chairs jb jc;deals 2;"), 0);
            Check.due("assize: chairs", x.judge(0, 2) + 10 * x.judge(1, 2) + 100 * x.judge(2, 2), 21);
            Check.due("assize: deals", x.gets(0), 2);
        }
        Check.assize(x, "chairs ja jb;");
        for (int n = 0; n < 3; n++) {
            for (int mark = 0; mark < 4; mark++) {
                x.mark(mark, false);
            }
            Check.due("assize: plain", Check.assize(x, Texts.even(3) + Texts.cases(0, 1, 2, 3)), 0);
            Check.due("assize: chairs by numbers", x.judge(0, 2) + 10 * x.judge(1, 2) + 100 * x.judge(2, 2), 210);
            Check.due("assize: deals 1", x.gets(0), 3);
            for (int mark = 0; mark < 4; mark++) {
                Check.due("assize: mark " + mark, x.mark(mark, true), false);
            }
        }
    }

    private static void assizeFault(String text, int kind, String from) {
        int place = from.isEmpty() ? text.length() : text.lastIndexOf(from);
        Check.due("fault of " + text, Check.assize(new SwapAssize(), text), kind + 16 * place);
    }

    private static void assizeFaults() {
        for (String name : new String[] {"judge", "leans", "case", "guilt", "on", "chairs", "deals", "day", "plead", "lean",
            "change", "plain", "stern", "mild", "same", "not", "and", "or"}) {
            assizeFault("judge " + name, 1, name);
            assizeFault("case  " + name, 1, name);
            assizeFault("judge a plain leans 0;chairs  " + name, 1, name);
        }
        String[] wrongLines = {"judge", "judge a", "judge a plain", "judge a plain leans", "judge a plain leans 1", "case", "case a",
            "case a guilt", "case a guilt 1", "case a guilt 1 on", "case a guilt 1 on 1", "deals", "deals 1"};
        for (String line : wrongLines) {
            assizeFault(line, 1, "");
            assizeFault(line + " ~", 1, "~");
            assizeFault(line + " abcdefghi;", 1, "abcdefghi");
            assizeFault(line + " 12345;", 1, "12345");
            assizeFault(line + " A;", 1, "A");
        }
        assizeFault("plead a 1;", 1, "plead");
        assizeFault(";", 1, ";");
        assizeFault("judge a plain leans 1;;", 1, ";");
        assizeFault("judge a plain lean 1;", 1, "lean");
        assizeFault("judge a day leans 1;", 1, "day");
        assizeFault("judge a not leans 1;", 1, "not");
        assizeFault("judge a b leans 1;", 1, "b");
        assizeFault("judge a plain leans 20;judge b plain leans 21;", 4, "21");
        assizeFault("judge a plain leans 9999;", 4, "9999");
        assizeFault("case a guilt 21 on 9;", 4, "21");
        assizeFault("case a guilt 20 on 4;", 4, "4");
        assizeFault("judge a plain leans 1;judge a", 3, "a");
        assizeFault("judge a plain leans 1;case a", 3, "a");
        assizeFault("case a guilt 1 on 1;case a", 3, "a");
        assizeFault("case a guilt 1 on 1;judge a", 3, "a");
        String two = "judge a plain leans 1;judge b plain leans 1;judge c plain leans 1;case d guilt 1 on 1;";
        assizeFault(two + "chairs", 1, "");
        assizeFault(two + "chairs a", 1, "");
        assizeFault(two + "chairs a b", 1, "");
        assizeFault(two + "chairs 1", 1, "1");
        assizeFault(two + "chairs a 1", 1, "1");
        assizeFault(two + "chairs a b c;", 1, "c");
        assizeFault(two + "chairs d", 2, "d");
        assizeFault(two + "chairs a d", 2, "d");
        assizeFault(two + "chairs z", 2, "z");
        assizeFault(two + "chairs a nth", 2, "nth");
        assizeFault(two + "chairs a a", 3, "a");
        assizeFault(two + "chairs a b;chairs a b", 3, "b");
        assizeFault(two + "chairs b c;chairs c b", 3, "b");
        assizeFault("chairs a b;judge a plain leans 1;judge b plain leans 1;", 2, "a b");
        Check.due("every two once", Check.assize(new SwapAssize(), two + "chairs a b;chairs c b;chairs a c;"), 0);
        assizeFault(Texts.even(7) + "judge", 5, "judge");
        assizeFault(Texts.cases(0, 1, 2, 3, 4, 5, 6, 7) + "case", 5, "case");
        assizeFault("deals 1;deals", 3, "deals");
        assizeFault(Texts.even(7) + "judgee", 1, "judgee");
        assizeFault(two + "chairs a b judge e plain leans 1;", 1, "judge");
        StringBuilder pairs = new StringBuilder(Texts.even(7));
        for (char one = 'a'; one <= 'g'; one++) {
            for (char other = 'g'; other > one; other--) {
                pairs.append("chairs j").append(one).append(" j").append(other).append(";");
            }
        }
        Check.due("all pairs of seven", Check.assize(new SwapAssize(), pairs.toString()), 0);
        assizeFault(pairs + "chairs jg jd;", 3, "jd");
    }

    private static void lawFaults() {
        String[] behindOperands = {"1", "nth", "(1)", "not 1", "1 + 1", "1 * 1", "1 and 1", "1 < 2", "1 = nth", "not not not not 1", "((((1))))",
            "not(not(1))"};
        for (String e : behindOperands) {
            Check.due("law " + e, Check.assize(new SwapAssize(), "deals " + e + ";"), 0);
            for (String wrong : new String[] {" 77;", " many;", " zz;", " not;", " (;", " );", " case;", " ~"}) {
                assizeFault("deals " + e + wrong, 1, wrong.substring(1));
            }
            assizeFault("deals " + e, 1, "");
        }
        String[] aheadOfOperands = {"", "1 +", "1 -", "1 *", "1 and", "1 or", "1 <", "1 =", "not", "(", "not not not not not", "((((("};
        for (String e : aheadOfOperands) {
            for (String wrong : new String[] {" +;", " -;", " *;", " <;", " =;", " and;", " or;", " );", " ;", " zz;", " day;", " ?", " 00000;"}) {
                assizeFault("deals " + e + wrong, 1, wrong.substring(1));
            }
            assizeFault("deals " + e + " ", 1, "");
        }
        assizeFault("deals 1<2<3;", 1, "<3");
        assizeFault("deals 1=2<3;", 1, "<3");
        assizeFault("deals (1<2=3);", 1, "=3");
        assizeFault("deals (1;", 1, ";");
        Check.due("law: tests joined", Check.assize(new SwapAssize(), "deals 1<2 and 2=3 or(1<2)<3;"), 0);
        for (String part : new String[] {"8;", "nth;", "not 9;", "(9);", "not not 9;"}) {
            assizeFault("deals not not not not not " + part, 5, part);
            assizeFault("deals ( ( ( ( ( " + part, 5, part);
            assizeFault("deals 1 + ( not ( 1 and 2 < 3 * not not " + part, 5, part);
        }
    }

    /** One day of two cases: an even number of places leaves them their own. */
    private static void law(String e, boolean odd) {
        SwapAssize x = Check.of(Texts.even(2) + Texts.cases(0, 3, 5) + "deals " + e + ";");
        Check.due("law " + e, x.own(0), odd ? 0 : 3);
    }

    private static void lawIs(String e, int value) {
        String want = value < 0 ? "0 - " + -(long) value : "" + value;
        law(e + " = " + want, true);
    }

    private static void laws() {
        lawIs("2 + 3 * 4", 14);
        lawIs("2 * 3 + 4", 10);
        lawIs("9 - 3 - 2", 4);
        lawIs("9 - (3 - 2)", 8);
        lawIs("2 - 3", -1);
        lawIs("9999 * 9999 - 9998 * 9999", 9999);
        lawIs("not 0 + 1", 2);
        lawIs("not 7 + 1", 1);
        lawIs("not not 7", 1);
        lawIs("(1 < 2) + (2 < 2) + (0 - 1 < 0)", 2);
        lawIs("(5 = 5) + (5 = 6)", 1);
        lawIs("(7 and 9) + (7 and 0) + (0 and 7) + (0 and 0)", 1);
        lawIs("(7 or 9) + (7 or 0) + (0 or 7) + (0 or 0)", 3);
        lawIs("(1 or 0 and 0)", 0);
        lawIs("(0 and 0 or 1)", 1);
        lawIs("(1 or 1 and 0 or 0)", 0);
        lawIs("(3 < 4 and 4 < 3 or 2 = 2)", 1);
        law("2", false);
        law("0", false);
        law("9999", true);
        law("0 - 3", true);
        law("0 - 2", false);
        law("many = 2", true);
        law("many = 3", false);
        law("today + 1", true);
        law("grief", false);
        int wrapped = 9999 * 9999 * 9999;
        law("(9999 * 9999 * 9999 < 0)", wrapped < 0);
        law("(65536 - 1)", false, "65536");
        law("(256 * 256 * 256 * 128 < 0)", true);
        law("(256 * 256 * 256 * 256 = 0)", true);
        wrapsBeforePlaces();
        deals();
    }

    private static void law(String e, boolean right, String wrongToken) {
        Check.due("a number is too long: " + e, Check.assize(new SwapAssize(), "deals " + e + ";") == 1 + 16 * (6 + e.indexOf(wrongToken)), !right);
    }

    /** The greatest number of places from the last of three is one place ahead: 2147483647 = 1 mod 3. */
    private static void wrapsBeforePlaces() {
        SwapAssize x = Check.of(Texts.even(3) + Texts.cases(0, 1, 2, 3) + "deals 256 * 256 * 256 * 128 - 1;");
        Check.due("far places", x.gets(0) + 10 * x.gets(1) + 100 * x.gets(2), 213);
        x = Check.of(Texts.even(3) + Texts.cases(0, 1, 2, 3) + "deals 256 * 256 * 256 * 128;");
        Check.due("far ahead: -2147483648 = 1 mod 3", x.gets(0) + 10 * x.gets(1) + 100 * x.gets(2), 213);
    }

    private static void deals(String e, int... gets) {
        SwapAssize x = Check.of(Texts.even(5) + Texts.cases(0, 1, 2, 3, 4, 5) + "deals " + e + ";");
        for (int n = 0; n < gets.length; n++) {
            Check.due("deals " + e + ": gets(" + n + ")", x.gets(n), gets[n]);
        }
    }

    private static void deals() {
        deals("0", 1, 2, 3, 4, 5);
        deals("1", 5, 1, 2, 3, 4);
        deals("7", 4, 5, 1, 2, 3);
        deals("0 - 1", 2, 3, 4, 5, 1);
        deals("0 - nth", 1, 2, 3, 4, 5);
        deals("0 - nth + 3", 3, 4, 5, 1, 2);
        deals("many - nth - 1", 2, 3, 4, 5, 1);
        deals("nth < 2", 5, 1, 2, 3, 4);
        deals("nth = 0", 5, 1, 2, 3, 4);
        deals("nth = 4", 1, 2, 3, 4, 5);
        deals("nth * 2", 1, 3, 5, 2, 4);
        deals("nth * nth", 1, 3, 2, 4, 5);
        SwapAssize x = Check.of(Texts.even(3) + Texts.cases(0, 1, 2, 3));
        Check.due("without deals: 1", x.gets(0) + 10 * x.gets(1) + 100 * x.gets(2), 213);
    }

    private static void term() {
        SwapAssize x = Check.of(BASE);
        Check.due("term", Check.term(x, "day;plead duck 3;lean ann20;change dot\nann;"), 0);
        Check.due("term: lines", x.count(6), 4);
        Check.due("term: nothing is done", x.count(8) + x.count(2), 0);
        Check.due("term: fault", Check.term(x, "day;day"), 1 + 16 * 7);
        Check.due("term: stays", x.count(6), 4);
        Check.due("term: taken", x.count(9), 0);
        Check.due("term: 40 lines", Check.term(x, "day;".repeat(40)), 0);
        Check.due("term: 40", x.count(6), 40);
        Check.due("term: empty", x.term(), 0);
        Check.due("term: none", x.count(6), 0);
    }

    private static void termFault(String text, int kind, String from) {
        int place = from.isEmpty() ? text.length() : text.lastIndexOf(from);
        Check.due("term fault of " + text, Check.term(Check.of(BASE), text), kind + 16 * place);
    }

    private static void termFaults() {
        for (String line : new String[] {"day", "plead", "plead duck", "plead duck 1", "lean", "lean ann", "lean ann 1", "change", "change ann",
            "change ann bea"}) {
            termFault(line, 1, "");
            termFault(line + " (", 1, "(");
            termFault(line + " ~", 1, "~");
            termFault(line + " day;", 1, "day");
        }
        termFault("judge", 1, "judge");
        termFault("deals 1;", 1, "deals");
        termFault("leans ann 1;", 1, "leans");
        termFault("plain ann 1;", 1, "plain");
        termFault("day;duck", 1, "duck");
        termFault("plead ann 9;", 2, "ann");
        termFault("plead nth 9;", 2, "nth");
        termFault("lean duck 99;", 2, "duck");
        termFault("change duck duck;", 2, "duck duck");
        termFault("change ann duck;", 2, "duck");
        termFault("change bea zed;", 2, "zed");
        termFault("change ann ann;", 3, "ann");
        termFault("plead duck 4;", 4, "4");
        termFault("lean ann 21;", 4, "21");
        termFault("day;".repeat(40) + "day", 5, "day");
        termFault("day;".repeat(40) + "change", 5, "change");
        termFault("day;".repeat(40) + "duck", 1, "duck");
        termFault("day;".repeat(40) + ";", 1, ";");
        Check.due("term of nothing", Check.term(new SwapAssize(), "plead duck 1;"), 2 + 16 * 6);
    }

    private static void judge() {
        SwapAssize x = Check.of(BASE + "chairs ann cal;");
        int[][] want = {{0, 12, 2}, {1, 5, 1}, {2, 20, 0}, {3, 0, 3}};
        for (int judge = 0; judge < 4; judge++) {
            for (int what = 0; what < 3; what++) {
                Check.due("judge(" + judge + ", " + what + ")", x.judge(judge, what), want[judge][what]);
            }
            Check.due("judge what 3", x.judge(judge, 3), NONE);
            Check.due("judge what -1", x.judge(judge, -1), NONE);
        }
        Check.due("judge(4)", x.judge(4, 0), NONE);
        Check.due("judge(-1)", x.judge(-1, 2), NONE);
    }

    private static void trial() {
        SwapAssize x = Check.of(BASE);
        x.day();
        x.plead(2, 3);
        Check.due("trial: guilt", x.trial(2, 0), 10);
        Check.due("trial: day", x.trial(2, 1), 3);
        Check.due("trial: had", x.trial(2, 2), 20);
        Check.due("trial: gets", x.trial(2, 3), 12);
        Check.due("trial what 4", x.trial(2, 4), -2);
        Check.due("trial what -1", x.trial(2, -1), -2);
        Check.due("trial(6)", x.trial(6, 0), -2);
        Check.due("trial(-1)", x.trial(-1, 0), -2);
        x = Check.of(Texts.even(1) + Texts.cases(0, 5, 6));
        Check.due("trial: nobody hears it", x.trial(1, 3), NONE);
    }

    private static void day() {
        SwapAssize x = Check.of(BASE);
        int[] heard = {7, 24, 32, 0, 7};
        int[] had = {36, 61, 63, 63, 99};
        for (int n = 0; n < 5; n++) {
            Check.due("day " + n, x.day(), heard[n]);
            Check.due("day " + n + ": had", x.count(4), had[n]);
            Check.due("day " + n + ": next", x.count(2), (n + 1) % 4);
            Check.due("day " + n + ": rounds", x.count(3), (n + 1) / 4);
        }
        x = Check.of(Texts.even(2) + Texts.cases(0, 5, 6, 7));
        Check.due("day: the last is heard by nobody", x.day(), 3);
        Check.due("day: all stays with it", x.trial(2, 2), 0);
        Check.due("day: first", x.trial(0, 2), 6);
        Check.due("day: second", x.trial(1, 2), 5);
        hadAtMost();
    }

    /** More calls than an object is used for, as so much can hardly be had by fewer. */
    private static void hadAtMost() {
        SwapAssize x = Check.of("judge ja stern leans 20;judge jb stern leans 20;case a guilt 20 on 0;case b guilt 20 on 0;case c guilt 1 on 1;");
        for (int n = 0; n < 4 * 285; n++) {
            x.day();
        }
        Check.due("day: 285 times 35", x.trial(0, 2), 9975);
        Check.due("later: 9999 at most", x.later(0, 1), 9999);
        Check.due("reaches: 9999", x.reaches(1, 9999), 1);
        x.day();
        Check.due("day: 9999 at most", x.trial(0, 2), 9999);
        x.day();
        Check.due("day: of each, not together", x.count(4), 2 * 9999 + 286 * 16);
    }

    private static void plead() {
        SwapAssize x = Check.of(BASE);
        Check.due("plead", x.plead(5, 0), 2);
        Check.due("plead: again", x.plead(5, 3), 0);
        Check.due("plead: the same", x.plead(5, 3), 3);
        Check.due("plead: three can be undone", x.count(8), 3);
        Check.due("plead(6)", x.plead(6, 0), NONE);
        Check.due("plead(-1)", x.plead(-1, 0), NONE);
        Check.due("plead for 4", x.plead(0, 4), NONE);
        Check.due("plead for -1", x.plead(0, -1), NONE);
        Check.due("plead: others are nothing", x.count(8), 3);
        Check.due("plead: its day", x.trial(5, 1), 3);
        x = Check.of(Texts.even(7) + Texts.cases(0, 1, 2, 3, 4, 5, 6, 7));
        Check.due("plead: the seventh", x.plead(6, 2), 0);
        Check.due("plead: the seventh's day", x.trial(6, 1), 2);
        Check.due("lean: the seventh", x.lean(6, 2), 10);
        Check.due("lean: the seventh's", x.judge(6, 1), 2);
        Check.due("change: the seventh", x.change(6, 0), true);
        Check.due("change: the seventh's", x.judge(6, 2), 0);
    }

    private static void lean() {
        SwapAssize x = Check.of(BASE);
        Check.due("lean", x.lean(0, 20), 12);
        Check.due("lean: again", x.lean(0, 0), 20);
        Check.due("lean: of same", x.lean(3, 20), 0);
        Check.due("lean: too much", x.lean(0, 21), NONE);
        Check.due("lean: too little", x.lean(0, -1), NONE);
        Check.due("lean(4)", x.lean(4, 1), NONE);
        Check.due("lean(-1)", x.lean(-1, 1), NONE);
        Check.due("lean: done", x.count(8), 3);
        Check.due("lean: so", x.judge(0, 1), 0);
        Check.due("lean: the same one stays", x.gives(3, 0), 10);
    }

    private static void change() {
        SwapAssize x = Check.of(BASE);
        Check.due("change", x.change(0, 3), true);
        Check.due("change: back", x.judge(0, 2), 3);
        Check.due("change: forth", x.judge(3, 2), 0);
        Check.due("change: on", x.change(0, 1), true);
        Check.due("change: chair", x.judge(1, 2), 3);
        Check.due("change: chair", x.judge(0, 2), 1);
        Check.due("change: the same", x.change(2, 2), false);
        Check.due("change: others", x.change(0, 4), false);
        Check.due("change: others", x.change(4, 0), false);
        Check.due("change: others", x.change(-1, 0), false);
        Check.due("change: others", x.change(0, -1), false);
        Check.due("change: done", x.count(8), 2);
        Check.due("change: hears", x.hears(0), 3);
    }

    private static void undo() {
        SwapAssize x = Check.of(BASE);
        x.day();
        x.plead(0, 3);
        x.lean(1, 9);
        x.change(0, 2);
        x.day();
        x.see(0, 0, true);
        Check.due("undo a day", x.undo(), true);
        Check.due("undo: the day", x.count(2), 1);
        Check.due("undo: had", x.count(4), 36);
        Check.due("undo: what is seen stays", x.count(7), 1);
        x.undo();
        Check.due("undo: chair", x.judge(0, 2), 0);
        Check.due("undo: lean stays", x.judge(1, 1), 9);
        x.undo();
        Check.due("undo: lean", x.judge(1, 1), 5);
        x.undo();
        Check.due("undo: plead", x.trial(0, 1), 0);
        x.undo();
        Check.due("undo: all", x.count(4) + x.count(2) + x.count(8), 0);
        Check.due("undo: no more", x.undo(), false);
        for (int n = 0; n < 20; n++) {
            x.day();
        }
        Check.due("undo: 16", x.count(8), 16);
        Check.due("undo: round", x.count(3), 5);
        for (int n = 0; n < 16; n++) {
            Check.due("undo " + n, x.undo(), true);
        }
        Check.due("undo: the 17th", x.undo(), false);
        Check.due("undo: day 0 of round 1", x.count(2) + 4 * x.count(3), 4);
        Check.due("undo: had by four days", x.count(4), 63);
    }

    private static void judged() {
        SwapAssize x = Check.of(BASE);
        Check.due("judged: no term", x.judged(0), NONE);
        Check.due("judged: no term", x.judged(1), NONE);
        Check.due("judged: no term", x.judged(2), 0);
        Check.term(x, "lean bea 4;day;day;day;lean bea 5;plead pie 3;change ann bea;day;day;");
        x.day();
        x.lean(2, 0);
        Check.due("judged: 19 and less, then 22", x.judged(0), 8);
        Check.due("judged: pie alone is none", x.judged(1), NONE);
        Check.due("judged: together", x.judged(2), 35 + 24 + 2 + 0 + (4 + 22 + 10));
        Check.due("judged: what 3", x.judged(3), -2);
        Check.due("judged: what -1", x.judged(-1), -2);
        x = Check.of(Texts.even(2) + "case a guilt 19 on 0;case b guilt 3 on 1;case c guilt 20 on 1;deals today;");
        Check.term(x, "day;day;plead b 0;day;day;day;");
        Check.due("judged: 20 is so much", x.judged(0), 1);
        Check.due("judged: own beside another", x.judged(1), 5);
        Check.due("judged: together", x.judged(2), 64);
        Check.term(x, "plead b 0;plead a 1;day;day;");
        Check.due("judged: the last of two gets 20", x.judged(0), 3);
        Check.term(x, "plead a 1;lean ja 11;change ja jb;day;day;");
        Check.due("judged: of three two are heard", x.judged(0), NONE);
        Check.term(x, "plead a 1;lean ja 11;day;day;");
        Check.due("judged: the first of two is given 20", x.judged(0), 3);
        Check.term(x, "day;");
        Check.due("judged: 19 is not so much", x.judged(0), NONE);
        Check.due("judged: its own alone", x.judged(1), NONE);
    }

    private static void hears() {
        SwapAssize x = Check.of(BASE + "chairs ann dot;");
        int[] want = {3, 1, 2, 3, 1, 3};
        for (int n = 0; n < 6; n++) {
            Check.due("hears(" + n + ")", x.hears(n), want[n]);
        }
        x.plead(5, 0);
        Check.due("hears: the fourth", x.hears(5), 0);
        x.plead(4, 0);
        Check.due("hears: by numbers", x.hears(4), 0);
        Check.due("hears: by nobody", x.hears(5), NONE);
        Check.due("hears(6)", x.hears(6), NONE);
        Check.due("hears(-1)", x.hears(-1), NONE);
    }

    private static void gives() {
        SwapAssize x = Check.of(BASE);
        int[][] want = {{6, 22, 12, 10, 17, 2}, {4, 20, 10, 8, 15, 0}, {7, 15, 10, 9, 12, 5}, {10, 10, 10, 10, 10, 10}};
        for (int judge = 0; judge < 4; judge++) {
            for (int n = 0; n < 6; n++) {
                Check.due("gives(" + judge + ", " + n + ")", x.gives(judge, n), want[judge][n]);
            }
        }
        x.lean(0, 0);
        x.lean(1, 0);
        x.lean(2, 0);
        Check.due("gives: 0 at least", x.gives(0, 5), 0);
        Check.due("gives: stern, 0 at least", x.gives(1, 0), 0);
        Check.due("gives: mild, 0 at least", x.gives(2, 0), 0);
        x.lean(2, 11);
        Check.due("gives: half of 1", x.gives(2, 5), 0);
        x.lean(1, 20);
        Check.due("gives: stern", x.gives(1, 1), 35);
        Check.due("gives: others", x.gives(4, 0), NONE);
        Check.due("gives: others", x.gives(-1, 0), NONE);
        Check.due("gives: others", x.gives(0, 6), NONE);
        Check.due("gives: others", x.gives(0, -1), NONE);
    }

    private static void fromAndGets() {
        SwapAssize x = Check.of(BASE + "chairs bea cal;");
        int[] from = {1, 0, 2, 2, 0, 0};
        int[] gets = {10, 6, 15, 12, 10, 2};
        for (int n = 0; n < 6; n++) {
            Check.due("from(" + n + ")", x.from(n), from[n]);
            Check.due("gets(" + n + ")", x.gets(n), gets[n]);
        }
        Check.due("from: others", x.from(6), NONE);
        Check.due("from: others", x.from(-1), NONE);
        Check.due("gets: others", x.gets(6), NONE);
        Check.due("gets: others", x.gets(-1), NONE);
        // day 0 gives 1 + 2, so that of day 1 is dealt by 3, of day 0 then by 3 + 4 + 6 + 1
        x = Check.of(Texts.even(3) + Texts.cases(0, 1, 2) + Texts.cases(1, 4, 6, 1) + "deals grief;");
        Check.due("gets by grief then", x.gets(2), 4);
        Check.due("gets by no grief", x.gets(0), 1);
        x.day();
        Check.due("gets by grief 3", x.gets(2), 4);
        Check.due("gets in the next round", x.gets(0), 1);
        x.plead(4, 2);
        Check.due("gets by grief 3 of two", x.gets(2), 6);
        Check.due("from by grief 3 of two", x.from(2), 1);
        Check.due("gets by grief 14", x.gets(0), 1);
        Check.due("nothing is held by asking", x.count(2) * 100 + x.count(4), 103);
        x = Check.of(Texts.even(1) + Texts.cases(2, 1, 2));
        Check.due("from: heard by nobody", x.from(1), NONE);
        Check.due("gets: heard by nobody", x.gets(1), NONE);
    }

    private static void best() {
        SwapAssize x = Check.of(BASE);
        // duck: day 0 10, day 1 (6, 8, 12) 12, day 2 (6, 0) 0, day 3 6
        Check.due("best(0)", x.best(0), 2);
        // drain: day 0 20, day 1 (12, 8, 12) 12, day 2 (12, 0) 0, day 3 12
        Check.due("best(2)", x.best(2), 2);
        // pie: behind three 10, behind two 12, alone 2 on days 2 and 3
        Check.due("best: first of equal ones", x.best(5), 2);
        Check.due("best(6)", x.best(6), NONE);
        Check.due("best(-1)", x.best(-1), NONE);
        Check.due("best: nothing is pleaded", x.count(8), 0);
        x = Check.of(Texts.even(1) + "case a guilt 3 on 1;case b guilt 2 on 0;");
        Check.due("best: not heard is 0", x.best(1), 1);
        Check.due("best: heard alone", x.best(0), 0);
        x = Check.of(Texts.even(1) + "case a guilt 3 on 1;case b guilt 1 on 0;");
        Check.due("best: 0 is less than 1", x.best(1), 1);
        x = Check.of(Texts.cases(0, 1, 2));
        Check.due("best: no judges", x.best(1), 0);
        // by 0 places a keeps 5 on day 0; from day 1 on, day 0's grief 3 makes it b's 3 where b is
        x = Check.of(Texts.even(2) + "case a guilt 5 on 0;case b guilt 3 on 1;case c guilt 3 on 0;deals grief;");
        Check.due("best: by grief then", x.best(0), 1);
    }

    private static void plan() {
        SwapAssize x = Check.of(Texts.even(2) + Texts.cases(0, 5, 7, 9));
        Check.due("plan: the third is heard by nobody", x.plan(NONE), 12);
        Check.due("plan(0)", x.plan(0), 0);
        Check.due("plan(1)", x.plan(1), 0);
        Check.due("plan(2)", x.plan(2), 0);
        Check.due("plan(3)", x.plan(3), -2);
        Check.due("plan(-2)", x.plan(-2), -2);
        // the first gives 2 more than guilt, the second 2 less: two pairs
        x = Check.of("judge a plain leans 12;judge b plain leans 8;judge c plain leans 20;" + Texts.cases(3, 5, 5, 5, 5));
        Check.due("plan: two pairs", x.plan(NONE), 20);
        Check.due("plan: first row", x.plan(0) * 1000 + x.plan(1) * 100 + x.plan(2) * 10 + x.plan(3), 11);
        x.day();
        Check.due("plan: from the next day on", x.plan(NONE), 20);
        Check.due("plan: nothing is done", x.trial(0, 1) + x.count(8), 4);
        // the second gives 10: w has nobody ahead, y is best behind one, of which w is the first day, x and z are best alone
        x = Check.of("judge a plain leans 10;judge b same leans 0;judge c stern leans 20;"
            + "case w guilt 20 on 0;case x guilt 0 on 0;case y guilt 20 on 0;case z guilt 2 on 0;");
        Check.due("plan: behind one", x.plan(NONE), 32);
        Check.due("plan: days", x.plan(0) * 1000 + x.plan(1) * 100 + x.plan(2) * 10 + x.plan(3), 102);
        x = Check.of(Texts.cases(1, 3));
        Check.due("plan: no judges", x.plan(NONE), 0);
        Check.due("plan: no judges, day", x.plan(0), 0);
    }

    private static void lightest() {
        SwapAssize x = Check.of(Texts.even(7) + Texts.cases(0, 0, 20, 1, 19, 2) + Texts.cases(1, 4) + Texts.cases(2, 9));
        // 0 1 2 and 19 20: 2 apart
        Check.due("lightest of five", x.lightest(0), 2);
        Check.due("lightest of one", x.lightest(1), NONE);
        Check.due("lightest of none", x.lightest(3), NONE);
        Check.due("lightest of 4", x.lightest(4), NONE);
        Check.due("lightest of -1", x.lightest(-1), NONE);
        x = Check.of(Texts.even(7) + Texts.cases(0, 20, 0, 11, 1, 10, 19) + Texts.cases(2, 9));
        Check.due("lightest of pairs", x.lightest(0), 1);
        x = Check.of(Texts.even(7) + Texts.cases(3, 20, 10, 0));
        Check.due("lightest of three", x.lightest(3), 20);
        x = Check.of(Texts.even(7) + Texts.cases(3, 9, 9, 9, 9, 9, 9, 9));
        Check.due("lightest: equal ones", x.lightest(3), 0);
        x = Check.of(Texts.even(7) + Texts.cases(3, 0, 3, 6, 9, 12, 15, 20));
        Check.due("lightest of seven", x.lightest(3), 6);
        x = Check.of(Texts.even(2) + Texts.cases(3, 0, 3, 20));
        Check.due("lightest: of those heard", x.lightest(3), 3);
    }

    private static void own() {
        SwapAssize x = Check.of(BASE + "deals nth = 0 and today = 1;");
        Check.due("own(0)", x.own(0), 7);
        Check.due("own(1)", x.own(1), 0);
        Check.due("own: alone", x.own(2), 32);
        Check.due("own: none is heard", x.own(3), 0);
        Check.due("own(4)", x.own(4), NONE);
        Check.due("own(-1)", x.own(-1), NONE);
        x = Check.of(Texts.even(4) + Texts.cases(0, 1, 1, 1, 1) + "deals nth * 2;");
        Check.due("own: not by how much it is", x.own(0), 5);
    }

    private static void later() {
        SwapAssize x = Check.of(BASE);
        x.day();
        Check.due("later: now", x.later(2, 0), 20);
        Check.due("later: 3", x.later(2, 3), 20);
        Check.due("later: 4", x.later(2, 4), 40);
        Check.due("later: 60", x.later(2, 60), 320);
        Check.due("later: 61", x.later(2, 61), NONE);
        Check.due("later: -1", x.later(2, -1), NONE);
        Check.due("later(6)", x.later(6, 0), NONE);
        Check.due("later(-1)", x.later(-1, 0), NONE);
        Check.due("later: nothing is held", x.count(8), 1);
    }

    private static void reaches() {
        SwapAssize x = Check.of(BASE);
        Check.due("reaches 0", x.reaches(5, 0), 0);
        Check.due("reaches 1", x.reaches(5, 1), 3);
        Check.due("reaches 2", x.reaches(5, 2), 3);
        Check.due("reaches 3", x.reaches(5, 3), 7);
        Check.due("reaches 28 by 55", x.reaches(5, 28), 55);
        Check.due("reaches 30 by 59", x.reaches(5, 30), 59);
        Check.due("reaches 31", x.reaches(5, 31), NONE);
        x.plead(5, 3);
        Check.due("reaches: the 60th day", x.reaches(5, 30), 60);
        Check.due("reaches 9999", x.reaches(5, 9999), NONE);
        Check.due("reaches 10000", x.reaches(5, 10000), NONE);
        Check.due("reaches -1", x.reaches(5, -1), NONE);
        Check.due("reaches(6)", x.reaches(6, 0), NONE);
        Check.due("reaches(-1)", x.reaches(-1, 0), NONE);
    }

    private static void grief() {
        SwapAssize x = Check.of(BASE);
        int[] want = {0, 36, 61, 63, 63, 99};
        for (int days = 0; days < want.length; days++) {
            Check.due("grief(" + days + ")", x.grief(days), want[days]);
        }
        Check.due("grief(60)", x.grief(60), 15 * 63);
        Check.due("grief(61)", x.grief(61), NONE);
        Check.due("grief(-1)", x.grief(-1), NONE);
        x.day();
        Check.due("grief: now", x.grief(0), 36);
        Check.due("grief: one more", x.grief(1), 61);
    }

    private static void heavy() {
        SwapAssize x = Check.of(BASE);
        Check.due("heavy", x.heavy(), 0);
        x.plead(1, 3);
        Check.due("heavy: 16, 25, 2, 22", x.heavy(), 1);
        x.plead(4, 2);
        // 6 + 10; 10; 17 + 0; 22
        Check.due("heavy: 22", x.heavy(), 3);
        x = Check.of(Texts.even(1) + "case a guilt 4 on 2;case b guilt 4 on 3;case c guilt 9 on 3;");
        Check.due("heavy: the first", x.heavy(), 2);
        x.lean(0, 0);
        Check.due("heavy: nothing is given", x.heavy(), 0);
    }

    private static void backAndLoops() {
        SwapAssize x = Check.of(Texts.even(7) + Texts.cases(0, 1, 2, 3, 4, 5, 6, 7) + "deals (nth < 2) * (1 - 2 * nth) + (nth = 2 or nth = 3 or nth = 4 or nth = 5) - 4 * (nth = 6);");
        // 0 and 1 change; 2 to 6 go round
        Check.due("back: 2 and 5", x.back(0), 10);
        Check.due("loops: 2 and 5", x.loops(0), 2);
        x = Check.of(Texts.even(7) + Texts.cases(0, 1, 2, 3, 4, 5, 6, 7) + "deals (nth < 2) + (nth < 6 and 2 < nth) - 2 * (nth = 2) - 3 * (nth = 6);");
        Check.due("back: 3 and 4", x.back(0), 12);
        Check.due("loops: 3 and 4", x.loops(0), 2);
        x = Check.of(Texts.even(7) + Texts.cases(0, 1, 2, 3, 4) + Texts.cases(1, 1, 2, 3) + "deals today;");
        Check.due("back: own", x.back(0), 1);
        Check.due("loops: own", x.loops(0), 4);
        Check.due("back: three", x.back(1), 3);
        Check.due("loops: three", x.loops(1), 1);
        Check.due("back: none", x.back(2), NONE);
        Check.due("loops: none", x.loops(2), 0);
        Check.due("loops: own again", x.loops(0), 4);
        Check.due("loops: three again", x.loops(1), 1);
        Check.due("back(4)", x.back(4), NONE);
        Check.due("back(-1)", x.back(-1), NONE);
        Check.due("loops(4)", x.loops(4), NONE);
        Check.due("loops(-1)", x.loops(-1), NONE);
        // 2 + 1 is had ahead of day 1
        x = Check.of(Texts.even(4) + Texts.cases(0, 2, 1) + Texts.cases(1, 0, 0, 0, 0) + "deals grief * today;");
        Check.due("back: the next time", x.back(1), 4);
        x.lean(0, 9);
        Check.due("back: 2 places", x.back(1), 2);
        Check.due("loops: 2 places", x.loops(1), 2);
    }

    private static void unevenAndLucky() {
        SwapAssize x = Check.of(BASE);
        Check.due("uneven: nothing had", x.uneven(), 0);
        Check.due("lucky: the first", x.lucky(), 0);
        x.day();
        Check.due("uneven", x.uneven(), 20);
        Check.due("lucky: boot", x.lucky(), 3);
        x.day();
        x.day();
        Check.due("uneven: less the least", x.uneven(), 18);
        Check.due("lucky: pie", x.lucky(), 5);
        x.day();
        // 10 - 4, 6 - 20, 20 - 10, 15 - 8, 10 - 15, 2 - 0
        Check.due("lucky: libel", x.lucky(), 1);
        x = Check.of("");
        Check.due("uneven: no cases", x.uneven(), 0);
        Check.due("lucky: no cases", x.lucky(), NONE);
        x = Check.of(Texts.even(2) + Texts.cases(0, 5, 5));
        x.day();
        Check.due("uneven: both 5", x.uneven(), 0);
        Check.due("lucky: the first of both", x.lucky(), 0);
        x = Check.of(Texts.even(2) + Texts.cases(0, 5, 9));
        x.day();
        Check.due("uneven: the first had more", x.uneven(), 4);
        x.plead(0, 1);
        x.day();
        Check.due("uneven: the first had 14", x.uneven(), 9);
        x = Check.of(Texts.even(1) + Texts.cases(0, 5));
        x.day();
        Check.due("uneven: of one", x.uneven(), 0);
    }

    private static void see() {
        SwapAssize x = Check.of(BASE);
        Check.due("see: others", x.see(6, 0, true), false);
        Check.due("see: others", x.see(-1, 0, true), false);
        Check.due("see: others", x.see(0, 4, false), false);
        Check.due("see: others", x.see(0, -1, false), false);
        for (int n = 0; n < 8; n++) {
            Check.due("see " + n, x.see(5, 3, n < 0), true);
        }
        Check.due("see: 8 there are", x.see(0, 0, true), false);
        Check.due("see: 8", x.count(7), 8);
        Check.due("see: nothing can be undone", x.count(8), 0);
    }

    private static void shiftsAndAsk() {
        SwapAssize x = Check.of(BASE);
        Check.due("shifts: all", x.shifts(), 127);
        // of three: a third of seven and the rest, 3 to 4 at first for duck by ann
        Check.due("ask: duck, ann", x.ask(), 0);
        x.see(3, 1, true);
        // boot from bea: odd ones
        Check.due("shifts: odd", x.shifts(), 2 + 8 + 32);
        // duck from ann by 3 alone: 2 to 1
        Check.due("ask: duck of odd ones", x.ask(), 0);
        x.see(0, 0, false);
        Check.due("shifts: not by 3", x.shifts(), 2 + 32);
        // duck from bea by 2 and 5
        Check.due("ask: duck, bea", x.ask(), 1);
        x.see(1, 1, false);
        Check.due("shifts: libel not its own is known", x.shifts(), 34);
        x.see(1, 0, true);
        Check.due("shifts: 1", x.shifts(), 2);
        Check.due("ask: one is left", x.ask(), NONE);
        x.change(0, 1);
        // boot from bea, first chair now: even ones fail; chairs are as they are when it is asked
        Check.due("shifts: chairs as now", x.shifts() & 2, 0);
        x.change(0, 1);
        x.plead(3, 3);
        Check.due("shifts: boot alone gets ann's", x.shifts(), 0);
        Check.due("ask: none is left", x.ask(), NONE);
        x = Check.of(Texts.even(1) + Texts.cases(0, 1, 2));
        Check.due("ask: alone parts none", x.ask(), NONE);
        x.see(1, 0, false);
        Check.due("shifts: heard by nobody got none", x.shifts(), 127);
        x.see(1, 0, true);
        Check.due("shifts: heard by nobody got one", x.shifts(), 0);
        x = Check.of(Texts.even(7) + Texts.cases(0, 1, 2, 3, 4, 5, 6, 7));
        for (int judge = 0; judge < 7; judge++) {
            SwapAssize y = Check.of(Texts.even(7) + Texts.cases(0, 1, 2, 3, 4, 5, 6, 7));
            y.see(3, judge, true);
            Check.due("shifts from " + judge, y.shifts(), 1 << (3 - judge + 7) % 7);
        }
        x.see(0, 0, false);
        Check.due("shifts: not 0", x.shifts(), 126);
        Check.due("ask: 1 of 6", x.ask(), 1);
        x = Check.of(Texts.even(2) + Texts.cases(2, 1, 1) + Texts.cases(3, 1));
        Check.due("ask: 4 and 3", x.ask(), 0);
        x = Check.of(Texts.even(2) + Texts.cases(2, 1) + "case d guilt 1 on 0;case e guilt 2 on 1;case f guilt 2 on 1;");
        Check.due("ask: the first two part none", x.ask(), 8 * 2);
    }

    private static void strange() {
        int[] want = {1, 0, 1, 2, 9, 44, 265, 1854};
        for (int many = 0; many <= 7; many++) {
            SwapAssize x = Check.of(Texts.even(many) + Texts.cases(1, 1, 2, 3, 4, 5, 6, 7));
            Check.due("strange of " + many, x.strange(1), want[many]);
            Check.due("strange of none", x.strange(0), 1);
        }
        Check.due("strange(4)", new SwapAssize().strange(4), NONE);
        Check.due("strange(-1)", new SwapAssize().strange(-1), NONE);
    }

    private static void swap() {
        SwapAssize x = Check.of(BASE);
        // now 63; bea and dot: 6 + 10 + 10, 10 + 10, 2 = 48; ann and dot: 10 + 20 + 10, 10 + 15, 10 = 75;
        // ann and cal: 7 + 20 + 12, 9 + 15, 5; bea and cal: 6 + 15 + 10, 10 + 12, 2 = 55; ann and bea: 4 + 22 + 10, 8 + 17, 0 = 61
        Check.due("swap: bea and dot", x.swap(), 8 + 3);
        x.change(1, 3);
        // now 48; dot and ann: 10 + 22 + 10, ...; ann and bea: 4 + 10 + 10, 8 + 10, 0 = 42
        Check.due("swap: ann and bea", x.swap(), 1);
        x.change(0, 1);
        Check.due("swap: none is better", x.swap(), NONE);
        x = Check.of("judge a plain leans 12;judge b plain leans 11;judge c plain leans 11;" + Texts.cases(0, 4));
        Check.due("swap: the first pair", x.swap(), 1);
        x.lean(2, 10);
        Check.due("swap: the least", x.swap(), 2);
        x.change(0, 2);
        Check.due("swap: the lesser first", x.swap(), NONE);
        x.lean(2, 20);
        Check.due("swap: the lesser first", x.swap(), 8 + 2);
        Check.due("swap: none", new SwapAssize().swap(), NONE);
    }

    private static void harshAndMercy() {
        SwapAssize x = Check.of(BASE);
        Check.due("harsh: ann 69", x.harsh(), 0);
        x.lean(0, 10);
        // ann 57, bea 57, cal 58, dot 60
        Check.due("harsh: dot", x.harsh(), 3);
        x.lean(1, 8);
        Check.due("harsh: bea", x.harsh(), 1);
        int[] mercy = {0, 3, 2, 0, 3, 0};
        x.lean(1, 5);
        x.lean(2, 19);
        // duck 4 4 6 10; libel 20 20 14 10; drain 10 10 9 10; boot 8 8 8 10; hat 15 15 12 10; pie 0 0 4 10
        for (int n = 0; n < 6; n++) {
            Check.due("mercy(" + n + ")", x.mercy(n), mercy[n]);
        }
        Check.due("mercy(6)", x.mercy(6), NONE);
        Check.due("mercy(-1)", x.mercy(-1), NONE);
        Check.due("mercy: no judges", Check.of(Texts.cases(0, 1)).mercy(0), NONE);
        Check.due("harsh: no judges", Check.of(Texts.cases(0, 1)).harsh(), NONE);
        Check.due("harsh: no cases", Check.of(Texts.even(3)).harsh(), 0);
    }

    private static void crowdAndIdle() {
        SwapAssize x = Check.of(BASE);
        int[] crowd = {7, 24, 32, 0};
        for (int day = 0; day < 4; day++) {
            Check.due("crowd(" + day + ")", x.crowd(day), crowd[day]);
        }
        Check.due("crowd(4)", x.crowd(4), NONE);
        Check.due("crowd(-1)", x.crowd(-1), NONE);
        Check.due("idle: dot", x.idle(), 8);
        x.change(3, 0);
        Check.due("idle: ann", x.idle(), 1);
        x.plead(2, 3);
        Check.due("idle: ann and cal", x.idle(), 1 + 4);
        for (int n = 0; n < 6; n++) {
            x.plead(n, 3);
        }
        Check.due("crowd: also who is not heard", x.crowd(3), 63);
        Check.due("idle: nobody", x.idle(), 0);
        Check.due("idle: all", Check.of(Texts.even(7)).idle(), 127);
    }

    private static void spared() {
        SwapAssize x = Check.of(BASE);
        Check.due("spared: libel and hat", x.spared(), 2 + 16);
        x.day();
        Check.due("spared: the next time", x.spared(), 2 + 16);
        x.lean(1, 0);
        // day 0: 6 15 10; day 1: 10 10
        Check.due("spared: not of equal ones", x.spared(), 2);
        // ahead of day 1 grief is 3
        x = Check.of(Texts.even(2) + Texts.cases(0, 2, 1) + Texts.cases(1, 4, 5) + Texts.cases(2, 7, 6) + "deals grief;");
        Check.due("spared: by grief then", x.spared(), 8);
        x = Check.of(Texts.even(3) + Texts.cases(0, 3, 2, 1));
        Check.due("spared: the first, not the second", x.spared(), 1);
    }

    private static void chance() {
        SwapAssize x = Check.of(BASE);
        // duck gets 10, by 0, 3, 6 places 6, by 1, 4 10, by 2, 5 20
        Check.due("chance 6", x.chance(0, 6, 3), 1000000);
        Check.due("chance 7", x.chance(0, 7, 0), 571428);
        Check.due("chance 10 as dealt", x.chance(0, 10, 10), 1000000);
        Check.due("chance 11 as dealt", x.chance(0, 11, 10), 0);
        Check.due("chance 11", x.chance(0, 11, 0), 285714);
        Check.due("chance 20 by 3", x.chance(0, 20, 3), 200000);
        Check.due("chance 10 by 1", x.chance(0, 10, 1), (7 + 9 * 4) * 1000000 / 70);
        Check.due("chance 21", x.chance(0, 21, 5), 0);
        Check.due("chance 40", x.chance(0, 40, 5), 0);
        Check.due("chance 1", x.chance(0, 1, 5), 1000000);
        Check.due("chance 0", x.chance(0, 0, 5), NONE);
        Check.due("chance 41", x.chance(0, 41, 5), NONE);
        Check.due("chance by -1", x.chance(0, 10, -1), NONE);
        Check.due("chance by 11", x.chance(0, 10, 11), NONE);
        Check.due("chance(6)", x.chance(6, 10, 5), NONE);
        Check.due("chance(-1)", x.chance(-1, 10, 5), NONE);
        x = Check.of(Texts.even(1) + Texts.cases(0, 5, 6));
        Check.due("chance: nobody hears it", x.chance(1, 1, 5), NONE);
        x = Check.of(Texts.even(2) + Texts.cases(0, 2, 1) + Texts.cases(1, 4, 5) + "deals grief;");
        Check.due("chance: as it is dealt then", x.chance(2, 5, 10), 1000000);
        Check.due("chance: 3 of 7 else", x.chance(2, 5, 0), 428571);
        x = Check.of("judge a plain leans 0;" + Texts.cases(0, 0));
        Check.due("chance: gets 0", x.chance(0, 1, 5), 0);
    }

    private static void restsOf(int both, int loses, int gains, int... want) {
        SwapAssize x = new SwapAssize();
        String call = "rests(" + both + ", " + loses + ", " + gains + ")";
        Check.due(call, x.rests(both, loses, gains, NONE), want.length);
        for (int n = 0; n < want.length; n++) {
            Check.due(call + " " + n, x.rests(both, loses, gains, n), want[n]);
        }
        noRests(both, loses, gains, want.length);
    }

    private static void noRests(int both, int loses, int gains, int what) {
        boolean thrown = false;
        try {
            new SwapAssize().rests(both, loses, gains, what);
        } catch (NoSuchElementException e) {
            thrown = true;
        }
        Check.due("rests(" + both + ", " + loses + ", " + gains + ", " + what + ") throws", thrown, true);
    }

    private static void rests() {
        restsOf(5, 2, 3, 0, 3);
        restsOf(3, 2, 3, 0, 3);
        restsOf(2, 2, 3, 0);
        restsOf(2, 0, 3, 0, 1, 2);
        restsOf(3, 0, 2, 0, 3);
        restsOf(4, 0, 4, 0, 1, 2, 3);
        restsOf(0, 0, 0, 0, 1, 2, 3);
        restsOf(9, 9, 9, 0, 3);
        restsOf(0, 9, 9, 0);
        noRests(10, 0, 0, NONE);
        noRests(-1, 0, 0, NONE);
        noRests(0, 10, 0, NONE);
        noRests(0, -1, 0, 0);
        noRests(0, 0, 10, 0);
        noRests(0, 0, -1, NONE);
        noRests(0, 0, 0, -2);
        noRests(0, 0, 0, Integer.MAX_VALUE);
    }

    /** The draws of seed 1: 16838 5758 10113 17515 31051 5627 23010 7419 16212 4086 2749 12767 9084 12060 32225 17543 25089 21183. */
    private static void terms() {
        SwapAssize x = Check.of(BASE);
        // nothing, nothing, nothing; libel to 3; boot to 0; bea to 20; nothing; pie to 3; nothing; nothing
        int[] much = {36, 61, 63, 85, 110, 127, 129, 166, 206, 223};
        int[] most = {20, 20, 20, 28, 28, 28, 28, 43, 50, 50};
        int[] who = {2, 2, 2, 2, 2, 1, 1, 1, 1, 1};
        for (int days = 1; days <= 10; days++) {
            Check.due("terms(1, " + days + ", 0)", x.terms(1, days, 0), much[days - 1]);
            Check.due("terms(1, " + days + ", 1)", x.terms(1, days, 1), most[days - 1]);
            Check.due("terms(1, " + days + ", 2)", x.terms(1, days, 2), who[days - 1]);
        }
        Check.due("terms: all is as ahead", x.count(2) + x.count(3) + x.count(4) + x.count(8), 0);
        Check.due("terms: days are as ahead", x.crowd(0) * 64 + x.crowd(3), 7 * 64);
        x.day();
        Check.due("terms: from now on, by these", x.terms(1, 3, 0), 27);
        Check.due("terms: at last", x.terms(1, 3, 1), 20);
        x = Check.of(BASE);
        // seed 0: 0 21468 9988, 22117 3498 16927: duck to 0, cal and dot; seed 3: 17747 7107 10365, 8312 20622 15796, 4173
        Check.due("terms: seed 0", x.terms(0, 2, 0), 61);
        Check.due("terms: dot and bea", x.terms(3, 1, 0), 26);
        Check.due("terms: cal and ann", x.terms(3, 2, 0), 45);
        Check.due("terms: then nothing", x.terms(3, 3, 0), 50);
        Check.due("terms: chairs are as ahead", x.hears(1) + 10 * x.hears(0), 1);
        Check.due("terms: seed 9999", x.terms(9999, 99, 2) >= 0, true);
        Check.due("terms: seed 10000", x.terms(10000, 1, 0), -2);
        Check.due("terms: seed -1", x.terms(-1, 1, 0), -2);
        Check.due("terms: 0 days", x.terms(0, 0, 0), -2);
        Check.due("terms: 100 days", x.terms(0, 100, 0), -2);
        Check.due("terms: what 3", x.terms(0, 1, 3), -2);
        Check.due("terms: what -1", x.terms(0, 1, -1), -2);
        x = Check.of(Texts.even(1) + Texts.cases(0, 5));
        Check.due("terms: one of each pleads for 3", x.terms(1, 4, 0), 10);
        Check.due("terms: the most is the first's", x.terms(1, 4, 1), 10);
        x = Check.of("judge a plain leans 3;judge b plain leans 3;");
        Check.due("terms: no cases, much", x.terms(1, 99, 0), 0);
        Check.due("terms: no cases, most", x.terms(1, 99, 1), 0);
        Check.due("terms: no cases, no draws", x.terms(1, 99, 2), 0);
        x = Check.of(Texts.cases(0, 1));
        Check.due("terms: no judges", x.terms(1, 99, 2), NONE);
        Check.due("terms: no judges", x.terms(1, 99, 0), 0);
    }

    private static void mark() {
        SwapAssize x = Check.of(BASE);
        Check.due("mark: nothing is on it", x.mark(0, true), false);
        Check.due("mark(4)", x.mark(4, false), false);
        Check.due("mark(-1)", x.mark(-1, false), false);
        Check.due("mark(4) back", x.mark(4, true), false);
        Check.due("mark(-1) back", x.mark(-1, true), false);
        x.day();
        x.see(0, 1, true);
        Check.due("mark: laid", x.mark(3, false), true);
        Check.due("mark: undo stays", x.count(8), 1);
        x.plead(0, 3);
        x.lean(0, 0);
        x.change(0, 1);
        x.day();
        x.see(0, 2, false);
        x.see(0, 2, false);
        Check.term(x, "day;day;");
        Check.feed(x, "day");
        Check.due("mark: another one", x.mark(0, false), true);
        Check.due("mark: another one's back is none", x.mark(1, true), false);
        Check.due("mark: back", x.mark(3, true), true);
        Check.due("mark: day", x.count(2), 1);
        Check.due("mark: had", x.count(4), 36);
        Check.due("mark: plead", x.trial(0, 1), 0);
        Check.due("mark: lean", x.judge(0, 1), 12);
        Check.due("mark: chair", x.judge(0, 2), 0);
        Check.due("mark: seen", x.count(7), 1);
        Check.due("mark: what is seen", x.shifts(), 4 + 32);
        Check.due("mark: nothing can be undone", x.undo(), false);
        Check.due("mark: the term stays", x.count(6), 2);
        Check.due("mark: the tape stays", x.count(9), 3);
        x.day();
        Check.due("mark: again", x.mark(3, true), true);
        Check.due("mark: again, day", x.count(2), 1);
        Check.due("mark: the other one", x.mark(0, true), true);
        Check.due("mark: the other one's day", x.count(2), 2);
        Check.due("mark: the other one's lean", x.judge(0, 1), 0);
        Check.due("mark: the other one's seen", x.count(7), 3);
        Check.due("mark: laid over", x.mark(3, false), true);
        x.day();
        x.mark(3, true);
        Check.due("mark: laid over, day", x.count(2), 2);
        x = Check.of(BASE);
        x.mark(0, false);
        x.see(0, 2, true);
        x.mark(1, false);
        x.mark(0, true);
        x.see(1, 0, false);
        Check.due("mark: another is seen", x.shifts(), 127 - 2 - 16);
        x.mark(1, true);
        Check.due("mark: what was seen first", x.shifts(), 2 + 16);
        Check.due("mark: of nothing", new SwapAssize().mark(0, false), true);
    }

    private static void count() {
        SwapAssize x = Check.of(BASE);
        for (int n = 0; n < 5; n++) {
            x.day();
        }
        x.see(0, 0, true);
        Check.term(x, "day;plead duck 1;day;");
        Check.feed(x, "deals");
        int[] want = {4, 6, 1, 1, 99, 24, 3, 1, 5, 5};
        for (int what = 0; what < want.length; what++) {
            Check.due("count(" + what + ")", x.count(what), want[what]);
        }
        Check.due("count(10)", x.count(10), NONE);
        Check.due("count(-1)", x.count(-1), NONE);
        x = Check.of(Texts.even(2) + Texts.cases(0, 1, 2, 3));
        Check.due("count: heard, not up", x.count(5), 3);
    }
}

import java.util.List;

/** The edges of the tape, of its tokens and of what reads it, sentence by sentence: promises 2 to 4. */
public final class TapeBoundsTest {
    private static final String[] NO_NAMES = {"judge", "leans", "case", "guilt", "on", "chairs", "deals", "day", "plead", "lean", "change",
        "plain", "stern", "mild", "same", "not", "and", "or"};
    private static final String THREE = "judge a plain leans 1;judge b plain leans 1;judge c plain leans 1;case d guilt 1 on 1;";
    private static final String ALL_SEVEN = Texts.even(7) + Texts.cases(0, 1, 2, 3, 4, 5, 6, 7);

    public static void main(String[] args) {
        upToTwentyFour();
        highestFirst();
        othersAreLeftOut();
        beyondAThousand();
        aThousandAreRead();
        readingTakesIt();
        blanks();
        words();
        numbers();
        signs();
        emptyTexts();
        judges();
        cases();
        chairs();
        deals();
        names();
        termLines();
        termNames();
        depth();
        wrapping();
        truth();
        endOfText();
        firstAndLeast();
        allStaysByAFault();
        anAssizeBeginsAnew();
        aTermIsTheTerm();
        Check.end();
    }

    /** The fault of a text is at its second half's first sign. */
    private static void fault(int kind, String right, String wrong) {
        Check.due("assize of " + right + wrong, Check.assize(new SwapAssize(), right + wrong), kind + 16 * right.length());
    }

    private static void right(String text) {
        Check.due("assize of " + text, Check.assize(new SwapAssize(), text), 0);
    }

    private static void termFault(int kind, String right, String wrong) {
        Check.due("term " + right + wrong, Check.term(Check.of(THREE), right + wrong), kind + 16 * right.length());
    }

    private static void termRight(String text, int lines) {
        SwapAssize x = Check.of(THREE);
        Check.due("term " + text, Check.term(x, text), 0);
        Check.due("lines of " + text, x.count(6), lines);
    }

    // ---- feed

    private static void upToTwentyFour() {
        Check.says("Up to 24 signs come behind the TAPE: how many there are");
        SwapAssize x = new SwapAssize();
        long eight = Check.eight("aaaaaaaa", 0);
        Check.due("no sign", x.feed(0, 0, 0), 0);
        Check.due("24 signs", x.feed(eight, eight, eight), 24);
        Check.due("no sign more", x.feed(0, 0, 0), 24);
        Check.due("one sign more", x.feed(0, 'a', 0), 25);
        Check.due("24 signs more", x.feed(eight, eight, eight), 49);
        Check.due("on the tape", x.count(9), 49);
    }

    private static void highestFirst() {
        Check.says("the bytes of a, b, c, of each the highest first");
        SwapAssize x = new SwapAssize();
        Check.due("24 signs", x.feed(Check.eight("deals (1", 0), Check.eight(" + nth *", 0), Check.eight(" 2 ) ;~ ", 0)), 24);
        Check.due("the 23rd is none", x.assize(), 1 + 16 * 22);
        Check.due("the lowest of a, the highest of b", x.feed('d', Check.eight("e", 0), Check.eight("als 1; ~", 0)), 10);
        Check.due("the last is none", x.assize(), 1 + 16 * 9);
    }

    private static void othersAreLeftOut() {
        Check.says("others than 10 and 32 .. 126 are left out");
        for (int sign = 0; sign < 256; sign++) {
            SwapAssize x = new SwapAssize();
            boolean is = sign == 10 || sign >= 32 && sign <= 126;
            for (int place = 0; place < 24; place++) {
                long eight = (long) sign << 56 - 8 * (place % 8);
                int length = x.feed(place / 8 == 0 ? eight : 0, place / 8 == 1 ? eight : 0, place / 8 == 2 ? eight : 0);
                Check.due("sign " + sign + " at " + place, length, is ? place + 1 : 0);
            }
        }
        Check.due("all bits", new SwapAssize().feed(-1, -1, -1), 0);
        SwapAssize x = new SwapAssize();
        Check.due("those behind close up", Check.feed(x, "de\0a\u00ffl\ts \u007f0\r;\u0080"), 8);
        Check.due("it is one word", x.assize(), 0);
    }

    private static SwapAssize filled(int blanks) {
        SwapAssize x = new SwapAssize();
        Check.due(blanks + " blanks", Check.feed(x, " ".repeat(blanks)), blanks);
        return x;
    }

    private static int feed24(SwapAssize x, String text) {
        return x.feed(Check.eight(text, 0), Check.eight(text, 8), Check.eight(text, 16));
    }

    private static void beyondAThousand() {
        Check.says("what is beyond 1,000, are left out");
        String two = "deals nth + 1;  judge a;";
        Check.due("975 and 24", feed24(filled(975), two), 999);
        Check.due("976 and 24", feed24(filled(976), two), 1000);
        Check.due("977 and 24", feed24(filled(977), two), 1000);
        Check.due("999 and 24", feed24(filled(999), two), 1000);
        Check.due("1000 and 24", feed24(filled(1000), two), 1000);
        Check.due("1000 and none", filled(1000).feed(0, 0, 0), 1000);
        Check.due("999, those left out, one", filled(999).feed(0, -1, 'a'), 1000);
        SwapAssize x = filled(984);
        feed24(x, two);
        Check.due("the first ones stay", x.assize(), 0);
        x = filled(983);
        feed24(x, two);
        Check.due("one of the second ones, too", x.assize(), 1 + 16 * 999);
        x = filled(1000);
        feed24(x, two);
        Check.due("none comes behind", x.assize(), 0);
    }

    private static void aThousandAreRead() {
        Check.says("The TAPE has at most 1,000 signs");
        SwapAssize x = new SwapAssize();
        String sum = "deals 1" + "+1".repeat(496);
        Check.due("1,000 signs", Check.feed(x, sum + ";"), 1000);
        Check.due("the last is read", x.assize(), 0);
        Check.due("1,002 signs", Check.feed(x, sum + "+1;"), 1000);
        Check.due("the end is at 1,000", x.assize(), 1 + 16 * 1000);
        Check.due("it can be filled again", Check.feed(x, sum + ";"), 1000);
        Check.due("it is no term", x.term(), 1);
        Check.feed(x, "day;".repeat(40) + " ".repeat(839) + "~");
        Check.due("a term's last sign", x.term(), 1 + 16 * 999);
    }

    private static void readingTakesIt() {
        Check.says("what reads it takes it: it is empty then");
        SwapAssize x = new SwapAssize();
        Check.due("an assize", Check.assize(x, THREE), 0);
        Check.due("an assize: the tape", x.count(9), 0);
        Check.due("a fault", Check.assize(x, "judge"), 1 + 16 * 5);
        Check.due("a fault: the tape", x.count(9), 0);
        Check.due("a term", Check.term(x, "day;"), 0);
        Check.due("a term: the tape", x.count(9), 0);
        Check.due("a term's fault", Check.term(x, "day"), 1 + 16 * 3);
        Check.due("a term's fault: the tape", x.count(9), 0);
        Check.due("feed is the first again", x.feed('a', 0, 0), 1);
        // what was on it ahead of that does not come behind a shorter text
        x = new SwapAssize();
        Check.assize(x, "deals 99999999999999999999;");
        Check.due("a number at the end", Check.assize(x, "deals 1"), 1 + 16 * 7);
        Check.assize(x, "zzzzzzzzzzzzzzzzzzzzzzzzzz");
        Check.due("a word at the end", Check.assize(x, "judge"), 1 + 16 * 5);
        Check.term(x, "                          ;");
        Check.due("a word at the end of a term", Check.term(x, "day"), 1 + 16 * 3);
        Check.assize(x, "deals 1;;;;;;;;;;;;;;");
        Check.due("an end without its sign", Check.assize(x, "deals 1"), 1 + 16 * 7);
    }

    // ---- tokens

    private static void blanks() {
        Check.says("blanks (10, 32) between where one likes");
        right("\n \n judge\na\n\nplain leans\n20\n;  \n");
        right("judge a plain leans20;case b guilt20on3;deals(1)+2*nth;");
        right("deals not(1);");
        fault(1, "", "judgea plain leans 1;");
        fault(1, "judge a plain ", "le ans 1;");
        fault(1, "judge a plain leans 1 ", "0;");
        fault(4, "judge a plain leans ", "100;");
    }

    private static void words() {
        Check.says("WORDS (letters a .. z, 8 at most)");
        right("judge z plain leans 1;judge abcdefgh plain leans 1;judge bbcdefgh plain leans 1;judge abcdefgi plain leans 1;");
        right("judge a plain leans 1;judge aa plain leans 1;judge aaaaaaaa plain leans 1;judge aaaaaaa plain leans 1;");
        fault(1, "judge ", "abcdefghi plain leans 1;");
        fault(1, "judge ", "abcdefghijklmnopqrstuvwxyzjudge plain leans 1;");
        // the last eight letters alone are a word of the language
        fault(1, "", "aaaaaaaajudge a plain leans 1;");
        fault(1, "judge a plain leans 1;", "xxxxxxxxxcase b guilt 1 on 1;");
        for (String beside : new String[] {"`", "{", "@", "[", "A", "Z", "_"}) {
            fault(1, "judge ", beside + " plain leans 1;");
            fault(1, "judge a", beside + " plain leans 1;");
        }
        fault(1, "judge a", "1 plain leans 1;");
    }

    private static void numbers() {
        Check.says("NUMBERS (1 to 4 digits; a letter may stand right behind)");
        right("judge a plain leans 0;judge b plain leans 0000;judge c plain leans 0020;");
        right("deals 9999;");
        right("case b guilt 0020on 0003;");
        fault(1, "deals ", "10000;");
        fault(1, "deals ", "00000;");
        fault(1, "judge a plain leans ", "00001;");
        fault(1, "judge a plain leans ", "4294967297;");
        fault(1, "case b guilt 1 on ", "18446744073709551617;");
        for (String beside : new String[] {"/", ":", ".", ","}) {
            fault(1, "deals ", beside + ";");
            fault(1, "deals 1", beside + ";");
        }
        fault(1, "deals 9999 ", "9;");
    }

    private static void signs() {
        Check.says("the signs ( ) < = + - * ;  All else is none");
        for (char sign = 33; sign <= 126; sign++) {
            String right = "deals 1 ";
            String wrong = sign + " 1;";
            if ("<=+-*".indexOf(sign) >= 0) {
                right(right + wrong);
            } else if (sign == ';') {
                fault(1, right + "; ", "1;");
            } else {
                fault(1, right, wrong);
            }
            fault(1, "", sign + "judge a plain leans 1;");
        }
        fault(1, "deals 1 <", "= 1;");
        fault(1, "deals (1", ";");
        fault(1, "deals 1", ");");
        fault(1, "deals (", ");");
        right("deals (1);");
    }

    // ---- an ASSIZE

    private static void emptyTexts() {
        Check.says("ASSIZE: any number of; TERM: any number of");
        SwapAssize x = Check.of(THREE);
        Check.due("an empty term", x.term(), 0);
        Check.due("a term of blanks", Check.term(x, " \n "), 0);
        Check.due("an empty assize", x.assize(), 0);
        Check.due("nothing is told", x.count(0) + x.count(1), 0);
        right(" ");
        right("deals 1;");
        right("case a guilt 1 on 1;");
    }

    private static void judges() {
        Check.says("judge: 7 at most, numbered as told; an eighth");
        Check.due("seven", Check.of(ALL_SEVEN).count(0), 7);
        fault(5, Texts.even(7), "judge h plain leans 1;");
        fault(5, ALL_SEVEN, "judge");
        fault(5, ALL_SEVEN, "judge 1");
        right(Texts.even(6) + "judge h plain leans 1;");
        fault(1, Texts.even(7), "judges");
        Check.says("KIND: plain, stern, mild, same");
        SwapAssize x = Check.of("judge a plain leans 1;judge b stern leans 1;judge c mild leans 1;judge d same leans 1;");
        for (int judge = 0; judge < 4; judge++) {
            Check.due("kind of " + judge, x.judge(judge, 0), judge);
        }
        for (String other : new String[] {"leans", "on", "not", "plains", "b", "0", ";", "nth"}) {
            fault(1, "judge a ", other + " leans 1;");
        }
        Check.says("leans 0 to 20");
        Check.due("0", Check.of("judge a plain leans 0;").judge(0, 1), 0);
        Check.due("20", Check.of("judge a plain leans 20;").judge(0, 1), 20);
        fault(4, "judge a plain leans ", "21;");
        fault(4, "judge a plain leans ", "9999;");
        fault(1, "judge a plain leans ", "-1;");
    }

    private static void cases() {
        Check.says("case: 7 at most, numbered as told; an eighth");
        Check.due("seven", Check.of(ALL_SEVEN).count(1), 7);
        fault(5, Texts.cases(0, 1, 1, 1, 1, 1, 1, 1), "case");
        fault(5, ALL_SEVEN, "case h guilt 1 on 1;");
        right(Texts.cases(0, 1, 1, 1, 1, 1, 1) + "case h guilt 1 on 1;");
        Check.says("guilt 0 to 20, on a day 0 to 3");
        SwapAssize x = Check.of("case a guilt 0 on 0;case b guilt 20 on 3;");
        Check.due("guilt 0", x.trial(0, 0), 0);
        Check.due("day 0", x.trial(0, 1), 0);
        Check.due("guilt 20", x.trial(1, 0), 20);
        Check.due("day 3", x.trial(1, 1), 3);
        fault(4, "case a guilt ", "21 on 4;");
        fault(4, "case a guilt ", "9999 on 1;");
        fault(4, "case a guilt 20 on ", "4;");
        fault(4, "case a guilt 20 on ", "9999;");
        fault(1, "case a guilt 20 on ", "-1;");
    }

    private static void chairs() {
        Check.says("chairs: two JUDGES told, not the same, each two once");
        right(THREE + "chairs a b;chairs b c;chairs c a;");
        fault(2, "chairs ", "a b;" + THREE);
        fault(2, "judge a plain leans 1;chairs a ", "b;judge b plain leans 1;");
        fault(2, THREE + "chairs ", "d a;");
        fault(2, THREE + "chairs a ", "d;");
        fault(3, THREE + "chairs a ", "a;");
        fault(3, THREE + "chairs c ", "c;");
        fault(3, THREE + "chairs a b;chairs a ", "b;");
        fault(3, THREE + "chairs a b;chairs b ", "a;");
        fault(3, THREE + "chairs b c;chairs a c;chairs c ", "b;");
        fault(1, THREE + "chairs a b ", "c;");
        Check.says("at first the JUDGES sit by numbers; those of chairs did so at the begin, one pair behind another, as told");
        SwapAssize x = Check.of(ALL_SEVEN + "chairs ja jg;chairs jg jb;");
        int[] chairs = {6, 0, 2, 3, 4, 5, 1};
        for (int judge = 0; judge < 7; judge++) {
            Check.due("chair of " + judge, x.judge(judge, 2), chairs[judge]);
        }
        everyPair();
    }

    private static void everyPair() {
        Check.says("each two once; between which and that it is told (from either)");
        StringBuilder pairs = new StringBuilder(Texts.even(7));
        for (char one = 'a'; one <= 'g'; one++) {
            for (char other = 'a'; other < one; other++) {
                pairs.append("chairs j").append(one).append(" j").append(other).append(";");
            }
        }
        right(pairs.toString());
        for (char one = 'a'; one <= 'g'; one++) {
            for (char other = 'a'; other <= 'g'; other++) {
                fault(3, pairs + "chairs j" + one + " ", "j" + other + ";");
            }
        }
    }

    private static void deals() {
        Check.says("deals: once");
        fault(3, "deals 1;", "deals 1;");
        fault(3, "deals 1;" + THREE, "deals");
        fault(1, "deals ", "deals 1;");
        Check.says("Without deals: 1");
        Check.due("by 1", Check.of(Texts.even(3) + Texts.cases(0, 1, 2, 3)).from(0), 2);
        Check.due("by 0", Check.of(Texts.even(3) + Texts.cases(0, 1, 2, 3) + "deals 0;").from(0), 0);
    }

    private static void names() {
        Check.says("A NAME is another WORD than judge .. or");
        for (String no : NO_NAMES) {
            fault(1, "judge ", no + " plain leans 1;");
            fault(1, "case ", no + " guilt 1 on 1;");
            fault(1, THREE + "chairs ", no + " a;");
            fault(1, THREE + "chairs a ", no + ";");
            termFault(1, "plead ", no + " 1;");
            termFault(1, "lean ", no + " 1;");
            termFault(1, "change ", no + " a;");
            termFault(1, "change a ", no + ";");
            right("judge " + no + "x plain leans 1;case z" + no + " guilt 1 on 1;");
            right("judge " + no.substring(1) + "x plain leans 1;");
        }
        right("judge nth plain leans 1;judge many plain leans 1;case today guilt 1 on 1;case grief guilt 1 on 1;");
        Check.says("no two (JUDGES, CASES) are alike; a NAME told already");
        fault(3, THREE + "judge ", "a plain leans 1;");
        fault(3, THREE + "judge ", "d plain leans 1;");
        fault(3, THREE + "case ", "c guilt 1 on 1;");
        fault(3, THREE + "case ", "d guilt 1 on 1;");
        fault(3, Texts.even(6) + "judge ", "jf plain leans 1;");
        fault(3, Texts.even(7) + "case ", "jg guilt 1 on 1;");
        fault(3, Texts.cases(0, 1, 1, 1, 1, 1, 1) + "case ", "cfe guilt 1 on 1;");
    }

    // ---- a TERM

    private static void termLines() {
        Check.says("40 lines at most; the first word of a 41st line of a TERM");
        termRight("", 0);
        termRight("day;".repeat(39), 39);
        termRight("day;".repeat(40), 40);
        termRight("plead d 0;lean a 0;change a b;day;".repeat(10), 40);
        for (String word : new String[] {"day", "plead", "lean", "change"}) {
            termFault(5, "day;".repeat(40), word);
            termFault(5, "plead d 0;lean a 0;change a b;day;".repeat(10), word + " 77;");
        }
        termFault(1, "day;".repeat(40), "d");
        termFault(1, "day;".repeat(40), ";");
        termFault(1, "day;".repeat(40), "judge a");
        Check.says("a CASE for a day 0 to 3; a JUDGE to 0 to 20");
        termRight("plead d 0;plead d 3;lean a 0;lean a 20;", 4);
        termFault(4, "plead d ", "4;");
        termFault(4, "plead d ", "9999;");
        termFault(1, "plead d ", "-1;");
        termFault(4, "lean a ", "21;");
        termFault(4, "lean a ", "9999;");
        termFault(1, "lean a ", "-1;");
    }

    private static void termNames() {
        Check.says("two JUDGES, not the same; of change that is the first one");
        termRight("change a b;change b a;change a b;", 3);
        termFault(3, "change a ", "a;");
        termFault(3, "change a b;change c ", "c;");
        Check.says("a NAME of no JUDGE (lean, change, its second), of no CASE (behind plead) told");
        termFault(2, "plead ", "a 1;");
        termFault(2, "plead ", "zz 1;");
        termFault(2, "lean ", "d 1;");
        termFault(2, "lean ", "dd 1;");
        termFault(2, "change ", "d a;");
        termFault(2, "change ", "d d;");
        termFault(2, "change a ", "d;");
        termFault(2, "change a ", "aa;");
        Check.due("nobody is told", Check.term(new SwapAssize(), "lean a 1;"), 2 + 16 * 5);
        Check.due("nobody is needed", Check.term(new SwapAssize(), "day;"), 0);
        SwapAssize x = Check.of(THREE);
        Check.assize(x, "judge zed plain leans 1;case cow guilt 1 on 1;!");
        Check.due("told with a fault", Check.term(x, "lean zed 1;"), 2 + 16 * 5);
        Check.due("told with a fault", Check.term(x, "plead cow 1;"), 2 + 16 * 6);
        Check.due("told ahead of it", Check.term(x, "lean c 1;plead d 1;"), 0);
        Check.assize(x, "judge zed plain leans 1;case cow guilt 1 on 1;");
        Check.due("told now", Check.term(x, "lean zed 1;plead cow 1;"), 0);
        Check.due("told no more", Check.term(x, "lean a 1;"), 2 + 16 * 5);
        Check.due("told no more", Check.term(x, "plead d 1;"), 2 + 16 * 6);
    }

    // ---- an E

    private static void depth() {
        Check.says("no PART lies within 5 of not and ( ); not, or a PART, within 5 others");
        for (String deep : new String[] {"not not not not 1", "((((nth))))", "not(not(1))", "(not(not many))", "((((1+1*1<1 and 1))))",
            "not not not not 1*not not not not 1", "((((1))))+((((1))))", "not not(not 1+not 1)and not not not not 0"}) {
            right("deals " + deep + ";");
        }
        String[] within = {"not not not not not ", "(((((", "not(not(not ", "1 + (2 * (not (not ", "((((1 = 2 or not "};
        for (String five : within) {
            for (String part : new String[] {"0", "9999", "nth", "grief", "not 1", "not", "(1", "("}) {
                fault(5, "deals " + five, part);
            }
            for (String none : new String[] {"", ")", ";", "and", "+", "zz", "day", "10000", "~", "judge"}) {
                fault(1, "deals " + five, none);
            }
        }
        fault(5, "deals ((((1+(", "1)))));");
        fault(1, "deals ((((1))))", ");");
    }

    /** Two who change their verdicts if an E is so, and else keep their own. */
    private static void isSo(String e, boolean so) {
        Check.due("is it so: " + e, Check.of(Texts.even(2) + Texts.cases(0, 3, 5) + "deals " + e + ";").own(0), so ? 0 : 3);
    }

    private static void wrapping() {
        Check.says("ints wrap");
        isSo("256*256*256*127 < 0", false);
        isSo("256*256*256*128 < 0", true);
        isSo("256*256*256*256 = 0", true);
        isSo("9999*9999*21 + 9999*9999 < 0", true);
        isSo("0 - 9999*9999*21 - 9999*9999 < 0", false);
        isSo("256*256*256*128 - 1 < 0", false);
        isSo("0 - 256*256*256*128 = 256*256*256*128", true);
        isSo("256*256*256*128 < 256*256*256*128 - 1", true);
        isSo("256*256*256*128 - 1 < 256*256*256*128", false);
        isSo("9999*9999*9999 = 9999*(9999*9999)", true);
    }

    private static void truth() {
        Check.says("Of not, and, or, < and = comes 1 or 0; what is not 0 is so");
        isSo("(0 - 1 and 256*256*256*128) = 1", true);
        isSo("(256*256 or 0) = 1", true);
        isSo("(0 or 0) = 0", true);
        isSo("(7 and 0) = 0", true);
        isSo("not(0 - 1) = 0", true);
        isSo("not 0 = 1", true);
        isSo("not 0", true);
        isSo("not 5", false);
        isSo("3 + not 5", true);
        isSo("3 * not 5", false);
        isSo("not not 9999 = 1", true);
        isSo("(7 < 8) = 1", true);
        isSo("(8 < 8) = 0", true);
        isSo("(8 = 8) = 1", true);
        isSo("(8 = 9) = 0", true);
        isSo("(0 - 1 < 0) = 1", true);
        Check.says("nth (which verdict is dealt, from 0 on); many (how many CASES are HEARD on that day); today (the day, 0 to 3)");
        isSo("nth = 0", true);
        isSo("many = 2", true);
        SwapAssize x = Check.of(Texts.even(2) + Texts.cases(3, 1, 2, 3) + "deals many - 1 + (3 - today) * 9;");
        Check.due("heard, not up; day 3", x.own(3), 0);
        Check.says("grief (what all CASES had HAD ahead of that day, together)");
        x = Check.of(Texts.even(2) + Texts.cases(0, 3, 4) + Texts.cases(3, 1, 2) + "deals grief = 7;");
        Check.due("nothing was had ahead of it", x.own(0), 3);
        Check.due("7 was had ahead of it", x.own(3), 0);
        x.day();
        Check.due("10 is had ahead of it by then", x.own(0), 3);
        Check.says("PART: a NUMBER (0 is one, whatever was had)");
        x = Check.of(Texts.even(2) + Texts.cases(0, 3, 4) + "deals 0;");
        x.day();
        Check.due("7 was had, by 0 places", x.own(0), 3);
        x = Check.of(Texts.even(2) + Texts.cases(0, 3, 4) + "deals 0 + 1;");
        x.day();
        Check.due("7 was had, by 0 and 1", x.own(0), 0);
    }

    // ---- FAULTS

    private static void endOfText() {
        Check.says("the end being one at the text's length");
        for (String line : new String[] {"judge", "judge a", "judge a plain", "judge a plain leans", "judge a plain leans 1", "case", "case a",
            "case a guilt", "case a guilt 1", "case a guilt 1 on", "case a guilt 1 on 1", "deals", "deals 1", "deals 1 +", "deals 1 <", "deals not",
            "deals (", "deals (1", "deals (1)"}) {
            fault(1, line, "");
            fault(1, line + " ", "");
            fault(1, line + " \n\n", "");
            fault(1, line + " ".repeat(1000 - line.length()), "");
        }
        for (String line : new String[] {"chairs", "chairs a", "chairs a b"}) {
            fault(1, THREE + line, "");
            fault(1, THREE + line + "\n", "");
        }
        for (String line : new String[] {"day", "plead", "plead d", "plead d 1", "lean", "lean a", "lean a 1", "change", "change a", "change a b"}) {
            termFault(1, line, "");
            termFault(1, "day;" + line + " \n", "");
        }
    }

    private static void firstAndLeast() {
        Check.says("of the first token from the left that is wrong the least");
        fault(4, "judge a plain leans ", "21;judge a plain leans 22;~");
        fault(3, "judge a plain leans 1;case ", "a guilt 21 on 4;");
        fault(1, "judge a plain leans 1 ", "21;judge a");
        fault(2, THREE + "chairs ", "z z;chairs a a;");
        fault(5, Texts.even(7), "judge ja same leans 21;");
        fault(3, "deals 1;", "deals not not not not not not 1;");
        fault(1, "judge ", "21 plain leans 1;");
        fault(1, "chairs ", "judge a;");
        fault(1, "", "day;");
        fault(1, "", "plead a 1;");
        fault(1, "", "leans");
        fault(1, THREE, "a plain leans 1;");
        noLineBeginsSo();
        lineWithoutAnEnd();
        termFault(1, "", "judge a plain leans 1;");
        termFault(1, "", "case z guilt 1 on 1;");
        termFault(1, "", "deals 1;");
        termFault(1, "", "chairs a b;");
        termFault(1, "day;", ";");
        termFault(1, "plead d ", "a;");
        termFault(1, "change a ", "1;");
    }

    private static void noLineBeginsSo() {
        Check.says("1 it is none, or can't stand there (at the begin of a line)");
        for (String word : new String[] {"judge", "leans", "case", "guilt", "on", "chairs", "deals", "day", "plead", "lean", "change", "plain",
            "stern", "mild", "same", "not", "and", "or", "nth", "many", "today", "grief", "a", "d", "1", "(", ")", "<", "=", "+", "-", "*", ";"}) {
            if (!List.of("judge", "case", "chairs", "deals").contains(word)) {
                fault(1, "", word + " a b;");
                fault(1, THREE, word + " a b;");
            }
            if (!List.of("day", "plead", "lean", "change").contains(word)) {
                termFault(1, "", word + " a b;");
                termFault(1, "day;", word + " a b;");
            }
        }
    }

    /** A right line and a wrong one come behind what has no ; at its end. */
    private static void lineWithoutAnEnd() {
        Check.says("of the first token from the left that is wrong (where a ; is due)");
        for (String line : new String[] {"judge e plain leans 1 ", "case e guilt 1 on 1 ", "chairs a b ", "deals 1 "}) {
            fault(1, THREE + line, "judge f plain leans 1;");
            fault(1, THREE + line, "judge f plain leans 21;~");
            fault(1, THREE + line, "chairs a a;");
            fault(1, THREE + line, "~");
        }
        for (String line : new String[] {"day ", "plead d 1 ", "lean a 1 ", "change a b "}) {
            termFault(1, line, "day;");
            termFault(1, line, "lean a 21;~");
            termFault(1, line, "change a a;");
            termFault(1, line, "~");
        }
    }

    /** An object of which everything that can stay is there. */
    private static SwapAssize busy() {
        SwapAssize x = Check.of(THREE + "deals 2;");
        Check.term(x, "day;day;plead d 3;");
        x.day();
        x.day();
        x.lean(1, 7);
        x.change(0, 2);
        x.plead(0, 2);
        x.see(0, 1, true);
        x.mark(1, false);
        x.see(0, 0, false);
        return x;
    }

    private static void allStaysByAFault() {
        Check.says("The TAPE is read as an ASSIZE: 0, or its FAULT (all stays then)");
        SwapAssize x = busy();
        String before = Texts.all(x);
        for (String text : new String[] {"~", "judge z same leans 3;case y guilt 2 on 2;deals 0;~", "judge z same leans 21;", ALL_SEVEN + "judge", "deals 3;deals"}) {
            Check.due("a fault of " + text, Check.assize(x, text) != 0, true);
            Check.due("all behind " + text, Texts.all(x), before);
        }
        Check.due("the mark is there", x.mark(1, true), true);
        Check.due("what was seen on it", x.count(7), 1);
        Check.says("The TAPE is read as a TERM, likewise");
        x = busy();
        before = Texts.all(x);
        for (String text : new String[] {"~", "day;day;~", "lean z 1;", "day;".repeat(41), "plead d 4;"}) {
            Check.due("a fault of " + text, Check.term(x, text) != 0, true);
            Check.due("all behind " + text, Texts.all(x), before);
        }
    }

    private static void anAssizeBeginsAnew() {
        Check.says("day 0 is next, of round 0, nobody has HAD anything, no TERM, nothing SEEN, nothing can be undone, no MARK is there");
        SwapAssize x = busy();
        for (int n = 0; n < 5; n++) {
            x.day();
        }
        for (int mark = 0; mark < 4; mark++) {
            x.mark(mark, false);
        }
        Check.due("told again", Check.assize(x, THREE), 0);
        for (int what = 2; what <= 9; what++) {
            Check.due("count(" + what + ")", x.count(what), 0);
        }
        Check.due("undo", x.undo(), false);
        for (int mark = 0; mark < 4; mark++) {
            Check.due("mark " + mark, x.mark(mark, true), false);
        }
        Check.due("had", x.trial(0, 2), 0);
        Check.due("its day as told", x.trial(0, 1), 1);
        Check.due("leans as told", x.judge(1, 1), 1);
        Check.due("chairs as told", x.judge(0, 2), 0);
        Check.due("shifts", x.shifts(), 127);
        Check.due("judged", x.judged(2), 0);
        nothingIsLeftOfOthers();
    }

    private static void nothingIsLeftOfOthers() {
        Check.says("an ASSIZE is the ASSIZE from then on (nothing is left of those ahead of it, nor of a faulty one)");
        SwapAssize x = new SwapAssize();
        for (int n = 0; n < 3; n++) {
            Check.due("with chairs", Check.assize(x, Texts.even(3) + Texts.cases(0, 1, 2, 3) + "chairs ja jb;chairs jb jc;deals 2;"), 0);
            Check.due("chairs", x.judge(0, 2) + 10 * x.judge(1, 2) + 100 * x.judge(2, 2), 21);
            Check.due("by two places", x.from(0), 0);
            Check.due("a fault", Check.assize(x, Texts.even(3) + "chairs ja jc;deals 0;~") % 16, 1);
        }
        x.see(0, 0, true);
        x.see(0, 0, true);
        Check.assize(x, ALL_SEVEN);
        x.see(0, 0, false);
        Check.due("it was not got", x.shifts(), 126);
        for (int n = 0; n < 3; n++) {
            Check.due("without chairs", Check.assize(x, Texts.even(3) + Texts.cases(0, 1, 2, 3)), 0);
            Check.due("chairs by numbers", x.judge(0, 2) + 10 * x.judge(1, 2) + 100 * x.judge(2, 2), 210);
            Check.due("by one place", x.from(0), 2);
        }
    }

    private static void aTermIsTheTerm() {
        Check.says("A TERM is the TERM");
        SwapAssize x = busy();
        String before = Texts.all(x);
        Check.due("one of one line", Check.term(x, "day;"), 0);
        Check.due("lines", x.count(6), 1);
        Check.due("the same again", Check.term(x, "day;day;plead d 3;"), 0);
        Check.due("all else stays", Texts.all(x), before);
        Check.due("an empty one", x.term(), 0);
        Check.due("no lines", x.count(6), 0);
    }
}

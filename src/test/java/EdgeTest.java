import java.util.NoSuchElementException;
import java.util.Random;

/** No call throws but rests, for any arguments in any state, and none leaves the ranges of its answers. */
public final class EdgeTest {
    private static final int[] EDGES = {Integer.MIN_VALUE, Integer.MIN_VALUE + 1, -100, -8, -3, -2, -1, 0, 1, 2, 3, 4, 5, 6, 7, 8, 9, 10, 11, 15, 16,
        20, 21, 39, 40, 41, 59, 60, 61, 98, 99, 100, 127, 128, 9998, 9999, 10000, Integer.MAX_VALUE - 1, Integer.MAX_VALUE};
    private static final String[] TEXTS = {
        "", "judge a plain leans 3;", "case a guilt 3 on 3;", "case a guilt 3 on 3;case b guilt 9 on 3;judge c same leans 20;deals 0 - grief * 9999 * nth;",
        "judge a plain leans 20;judge b mild leans 20;judge c stern leans 20;judge d same leans 20;judge e plain leans 0;judge f mild leans 0;"
            + "judge g stern leans 0;case h guilt 20 on 0;case i guilt 20 on 0;case j guilt 20 on 0;case k guilt 20 on 0;case l guilt 0 on 0;"
            + "case m guilt 7 on 0;case n guilt 13 on 0;chairs a g;chairs b f;deals grief * nth - many * (today < 2);"};

    private final Random random;
    private final SwapAssize x = new SwapAssize();

    private EdgeTest(long seed) {
        random = new Random(seed);
    }

    public static void main(String[] args) {
        for (int run = 0; run < 200; run++) {
            new EdgeTest(run).run();
        }
        longestLaws();
        Check.end();
    }

    private int edge() {
        return random.nextInt(3) == 0 ? random.nextInt(8) : EDGES[random.nextInt(EDGES.length)];
    }

    private void run() {
        for (int n = 0; n < 500; n++) {
            int call = random.nextInt(44);
            boolean thrown = false;
            try {
                answer(call);
            } catch (NoSuchElementException e) {
                thrown = call != 43;
            } catch (RuntimeException e) {
                thrown = true;
            }
            Check.due("call " + call + " throws", thrown, false);
        }
    }

    private void answer(int call) {
        if (call < 12) {
            change(call);
        } else if (call < 28) {
            askOne(call, edge(), edge());
        } else {
            askMore(call, edge(), edge());
        }
    }

    private void change(int call) {
        switch (call) {
            case 0 -> x.feed(random.nextLong(), random.nextLong() & 0x7f7f7f7f7f7f7f7fL, 0x3b206461790a3b20L);
            case 1 -> Check.assize(x, TEXTS[random.nextInt(TEXTS.length)]);
            case 2 -> Check.term(x, "day;day;day;day;day;");
            case 3 -> x.assize();
            case 4 -> x.term();
            case 5, 6 -> x.day();
            case 7 -> x.plead(edge(), edge());
            case 8 -> x.lean(edge(), edge());
            case 9 -> x.change(edge(), edge());
            case 10 -> x.undo();
            default -> x.mark(edge(), random.nextBoolean());
        }
    }

    private void askOne(int call, int a, int b) {
        switch (call) {
            case 12 -> x.judge(a, b);
            case 13 -> x.trial(a, b);
            case 14 -> x.judged(a);
            case 15 -> x.hears(a);
            case 16 -> x.gives(a, b);
            case 17 -> x.from(a);
            case 18 -> x.gets(a);
            case 19 -> x.best(a);
            case 20 -> x.plan(a);
            case 21 -> x.lightest(a);
            case 22 -> x.own(a);
            case 23 -> x.later(a, b);
            case 24 -> x.reaches(a, b);
            case 25 -> x.grief(a);
            case 26 -> x.heavy();
            default -> x.back(a);
        }
    }

    private void askMore(int call, int a, int b) {
        switch (call) {
            case 28 -> x.loops(a);
            case 29 -> x.uneven();
            case 30 -> x.lucky();
            case 31 -> x.see(a, b, random.nextBoolean());
            case 32 -> x.shifts();
            case 33 -> x.ask();
            case 34 -> x.strange(a);
            case 35 -> x.swap();
            case 36 -> x.harsh();
            case 37 -> x.crowd(a);
            case 38 -> x.idle();
            case 39 -> x.mercy(a);
            case 40 -> x.spared();
            case 41 -> x.chance(a, b, edge());
            case 42 -> x.terms(a, b, edge());
            default -> x.rests(a, b, edge(), edge());
        }
    }

    /** The whole tape is one E: as many parts as can be, and as deep. */
    private static void longestLaws() {
        String begin = "judge a plain leans 10;judge b plain leans 10;case c guilt 1 on 0;case d guilt 2 on 0;deals ";
        StringBuilder sum = new StringBuilder(begin).append("1");
        while (sum.length() < 998) {
            sum.append("+1");
        }
        sum.append(";");
        int ones = (sum.length() - begin.length()) / 2;
        Check.due("a long sum", Check.of(sum.toString()).own(0), ones % 2 == 0 ? 3 : 0);
        String deep = "1 and 1=1-1*(1 and 1=1-1*(1 and 1=1-1*(1 and 1=1-1*(1 and 1=1-1*0))))";
        // from inside: 1 = 1 - 0 is 1; then 1 = 1 - 1 * 1 is 0, and so on
        Check.due("a deep one", Check.of(begin + deep + ";").own(0), 0);
        Check.due("too deep by one", Check.assize(new SwapAssize(), "deals (" + deep + ");") % 16, 5);
    }
}

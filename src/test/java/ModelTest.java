import java.util.Random;

/** The class and the model side by side, by runs of calls that a fixed seed chooses. */
public final class ModelTest {
    private static final String[] WORDS = {"judge", "leans", "case", "guilt", "on", "chairs", "deals", "day", "plead", "lean", "change",
        "plain", "stern", "mild", "same", "not", "and", "or", "nth", "many", "today", "grief", "a", "b", "ca", "zz", "abcdefgh", "abcdefghi",
        "(", ")", "<", "=", "+", "-", "*", ";", "0", "3", "4", "20", "21", "9999", "10000", "007", "~", "A", "."};

    private final Random random;
    private SwapAssize x = new SwapAssize();
    private Model m = new Model();
    private String told = "";

    private ModelTest(long seed) {
        random = new Random(seed);
    }

    public static void main(String[] args) {
        for (int run = 0; run < 250 && Check.wrongOnes() == 0; run++) {
            new ModelTest(run).run();
        }
        for (int run = 0; run < 200 && Check.wrongOnes() == 0; run++) {
            new ModelTest(50000 + run).readOnly();
        }
        Check.end();
    }

    private int below(int n) {
        return random.nextInt(n);
    }

    /** Mostly within 0 .. most, now and then a little outside. */
    private int about(int most) {
        return below(12) == 0 ? below(most + 5) - 2 : below(most + 1);
    }

    private String pick(String... texts) {
        return texts[below(texts.length)];
    }

    private String assize() {
        StringBuilder text = new StringBuilder();
        int judges = below(8);
        int cases = below(8);
        boolean even = below(3) == 0;
        int lastDay = below(4);
        for (int n = 0; n < judges; n++) {
            text.append("judge j").append((char) ('a' + n)).append(' ').append(even ? "plain" : pick("plain", "stern", "mild", "same"));
            text.append(" leans ").append(even ? 10 : below(21)).append(pick(";", " ; ", ";\n"));
        }
        for (int n = 0; n < cases; n++) {
            text.append("case c").append((char) ('a' + n)).append(" guilt ").append(below(21)).append(" on ");
            text.append(below(lastDay + 1)).append(";");
        }
        for (int n = 0; n < judges - 1 && below(3) == 0; n++) {
            text.append("chairs j").append((char) ('a' + n)).append(" j").append((char) ('a' + n + 1 + below(judges - n - 1))).append(";");
        }
        if (below(4) != 0) {
            text.append("deals ").append(law(0)).append(";");
        }
        return text.toString();
    }

    private String law(int depth) {
        StringBuilder text = new StringBuilder(test(depth));
        while (below(5) == 0) {
            text.append(pick(" and ", " or ")).append(test(depth));
        }
        return text.toString();
    }

    private String test(int depth) {
        return below(5) == 0 ? sum(depth) + pick("<", "=") + sum(depth) : sum(depth);
    }

    private String sum(int depth) {
        StringBuilder text = new StringBuilder(product(depth));
        while (below(3) == 0) {
            text.append(pick("+", "-", " - ")).append(product(depth));
        }
        return text.toString();
    }

    private String product(int depth) {
        StringBuilder text = new StringBuilder(part(depth));
        while (below(4) == 0) {
            text.append(" * ").append(part(depth));
        }
        return text.toString();
    }

    private String part(int depth) {
        int choice = depth < 4 ? below(6) : below(4);
        if (choice == 4) {
            return "not " + part(depth + 1);
        }
        if (choice == 5) {
            return "(" + law(depth + 1) + ")";
        }
        return choice == 3 ? "" + below(below(4) == 0 ? 10000 : 8) : pick("nth", "many", "today", "grief");
    }

    private String term() {
        StringBuilder text = new StringBuilder();
        int judges = m.count(0);
        int cases = m.count(1);
        int lines = below(8) == 0 ? 38 + below(5) : below(12);
        for (int n = 0; n < lines; n++) {
            int choice = below(6);
            if (choice == 0 && cases > 0) {
                text.append("plead c").append((char) ('a' + below(cases))).append(' ').append(below(4)).append(";");
            } else if (choice == 1 && judges > 0) {
                text.append("lean j").append((char) ('a' + below(judges))).append(' ').append(below(21)).append(";");
            } else if (choice == 2 && judges > 1) {
                int one = below(judges);
                int other = (one + 1 + below(judges - 1)) % judges;
                text.append("change j").append((char) ('a' + one)).append(" j").append((char) ('a' + other)).append(";");
            } else {
                text.append("day;");
            }
        }
        return text.toString();
    }

    /** A text in which something may be wrong. */
    private String spoiled(String text) {
        int times = below(4) == 0 ? 0 : 1 + below(2);
        String spoiled = text;
        for (int n = 0; n < times; n++) {
            String[] tokens = spoiled.split("(?<=[;()<=+* -])|(?=[;()<=+* -])");
            int at = below(tokens.length);
            String word = WORDS[below(WORDS.length)];
            switch (below(4)) {
                case 0 -> tokens[at] = word;
                case 1 -> tokens[at] = "";
                case 2 -> tokens[at] = tokens[at] + " " + word + " ";
                default -> tokens[at] = tokens[at] + tokens[below(tokens.length)];
            }
            spoiled = String.join("", tokens);
        }
        return below(9) == 0 ? spoiled.substring(0, below(spoiled.length() + 1)) : spoiled;
    }

    private void feed(String text) {
        for (int at = 0; at < text.length(); at += 24) {
            long[] eights = new long[3];
            for (int n = 0; n < 24; n++) {
                eights[n / 8] = eights[n / 8] << 8 | (at + n < text.length() ? text.charAt(at + n) : 0);
            }
            Check.due("feed", x.feed(eights[0], eights[1], eights[2]), m.feed(eights));
        }
    }

    private void readAssize(String text) {
        feed(text);
        int fault = m.assize();
        Check.due("assize of " + text, x.assize(), fault);
        told = fault == 0 ? text : told;
    }

    private void readTerm(String text) {
        feed(text);
        Check.due("term of " + text, x.term(), m.term());
    }

    /** Many texts, most of them wrong somewhere. */
    private void readOnly() {
        for (int n = 0; n < 40; n++) {
            readAssize(spoiled(assize()));
            readTerm(spoiled(term()));
        }
        askAll();
    }

    private void run() {
        readAssize(assize());
        readTerm(term());
        int acts = 4 + below(40);
        for (int n = 0; n < acts; n++) {
            act();
            if (below(4) == 0) {
                askAll();
            }
        }
        askAll();
    }

    private void act() {
        int a = about(6);
        int b = about(6);
        switch (below(10)) {
            case 0, 1, 2 -> Check.due("day()", x.day(), m.day());
            case 3 -> Check.due("plead", x.plead(a, b % 5), m.plead(a, b % 5));
            case 4 -> Check.due("lean", x.lean(a, 3 * b), m.lean(a, 3 * b));
            case 5 -> Check.due("change", x.change(a, b), m.change(a, b));
            case 6 -> Check.due("undo", x.undo(), m.undo());
            case 7, 8 -> {
                boolean got = random.nextBoolean();
                Check.due("see", x.see(a, b, got), m.see(a, b, got));
            }
            default -> {
                boolean back = below(3) == 0;
                Check.due("mark", x.mark(a % 5, back), m.mark(a % 5, back));
            }
        }
    }

    private void due(String call, long got, long want) {
        Check.due(call + " behind " + told, got, want);
    }

    private void askAll() {
        for (int n = -1; n <= 7; n++) {
            askOf(n);
        }
        for (int what = -1; what <= 10; what++) {
            due("count " + what, x.count(what), m.count(what));
        }
        due("heavy", x.heavy(), m.heavy());
        due("uneven", x.uneven(), m.uneven());
        due("lucky", x.lucky(), m.lucky());
        due("shifts", x.shifts(), m.shifts());
        due("ask", x.ask(), m.ask());
        due("swap", x.swap(), m.swap());
        due("harsh", x.harsh(), m.harsh());
        due("idle", x.idle(), m.idle());
        due("spared", x.spared(), m.spared());
        int days = about(60);
        due("grief " + days, x.grief(days), m.grief(days));
        int seed = about(9999);
        days = about(99);
        for (int what = -1; what <= 3; what++) {
            due("judged " + what, x.judged(what), m.judged(what));
            due("terms " + seed + " " + days + " " + what, x.terms(seed, days, what), m.terms(seed, days, what));
        }
        if (m.count(1) <= 4 || below(20) == 0) {
            for (int what = -2; what <= 7; what++) {
                due("plan " + what, x.plan(what), m.plan(what));
            }
        }
    }

    private void askOf(int n) {
        for (int what = -1; what <= 4; what++) {
            due("judge " + n + " " + what, x.judge(n, what), m.judge(n, what));
            due("trial " + n + " " + what, x.trial(n, what), m.trial(n, what));
        }
        due("hears " + n, x.hears(n), m.hears(n));
        due("from " + n, x.from(n), m.from(n));
        due("gets " + n, x.gets(n), m.gets(n));
        due("best " + n, x.best(n), m.best(n));
        due("mercy " + n, x.mercy(n), m.mercy(n));
        due("lightest " + n, x.lightest(n), m.lightest(n));
        due("own " + n, x.own(n), m.own(n));
        due("back " + n, x.back(n), m.back(n));
        due("loops " + n, x.loops(n), m.loops(n));
        due("strange " + n, x.strange(n), m.strange(n));
        due("crowd " + n, x.crowd(n), m.crowd(n));
        int other = about(6);
        due("gives " + other + " " + n, x.gives(other, n), m.gives(other, n));
        int days = about(60);
        due("later " + n + " " + days, x.later(n, days), m.later(n, days));
        int much = about(below(2) == 0 ? 40 : 300);
        due("reaches " + n + " " + much, x.reaches(n, much), m.reaches(n, much));
        int odds = about(10);
        due("chance " + n + " " + much + " " + odds, x.chance(n, much, odds), m.chance(n, much, odds));
    }
}

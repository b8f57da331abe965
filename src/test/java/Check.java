/** What the tests share: the answers that are due, which of them are not, and how a text is read. */
final class Check {
    private static final int SHOWN = 40;

    private static int wrong = 0;
    private static int checked = 0;
    private static int sentences = 0;
    private static String sentence = "";
    private static int checkedAtSentence = 0;

    private Check() {
    }

    /** A sentence of the document: the answers behind it are about it, until the next one. */
    static void says(String words) {
        endSentence();
        sentences++;
        sentence = words;
        checkedAtSentence = checked;
    }

    private static void endSentence() {
        if (sentences > 0 && checked == checkedAtSentence) {
            wrong++;
            System.out.println("no answer was looked at for: " + sentence);
        }
    }

    static void due(String call, long got, long want) {
        isDue(call, got == want, "" + got, "" + want);
    }

    static void due(String call, boolean got, boolean want) {
        isDue(call, got == want, "" + got, "" + want);
    }

    static void due(String call, String got, String want) {
        isDue(call, got.equals(want), got, want);
    }

    private static void isDue(String call, boolean right, String got, String want) {
        checked++;
        if (!right) {
            wrong++;
            if (wrong <= SHOWN) {
                System.out.println(call + " answered " + got + ", due is " + want + (sentence.isEmpty() ? "" : ", as it says: " + sentence));
            }
        }
    }

    /** What one number is answered by. */
    interface Ask {
        long of(int number);
    }

    /** All numbers but those from the least to the most are answered alike. */
    static void others(String call, int least, int most, long want, Ask ask) {
        for (int number : Texts.outside(least, most)) {
            due(call + " of " + number, ask.of(number), want);
        }
    }

    static int wrongOnes() {
        return wrong;
    }

    static void end() {
        endSentence();
        System.out.println((sentences > 0 ? sentences + " sentences, " : "") + checked + " answers, " + wrong + " of them wrong");
        if (wrong != 0 || checked == 0) {
            System.exit(1);
        }
    }

    /** The text behind the tape, 24 signs a call; what the last call answered. */
    static int feed(SwapAssize x, String text) {
        int length = x.count(9);
        for (int at = 0; at < text.length(); at += 24) {
            length = x.feed(eight(text, at), eight(text, at + 8), eight(text, at + 16));
        }
        return length;
    }

    static long eight(String text, int at) {
        long signs = 0;
        for (int n = at; n < at + 8; n++) {
            signs = signs << 8 | (n < text.length() ? text.charAt(n) & 255 : 0);
        }
        return signs;
    }

    static int assize(SwapAssize x, String text) {
        feed(x, text);
        return x.assize();
    }

    static int term(SwapAssize x, String text) {
        feed(x, text);
        return x.term();
    }

    static SwapAssize of(String assize) {
        SwapAssize x = new SwapAssize();
        due("assize of " + assize, assize(x, assize), 0);
        return x;
    }
}

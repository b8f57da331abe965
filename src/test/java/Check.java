/** What the tests share: answers that are due, and texts for the tape. */
final class Check {
    private static int wrong = 0;
    private static int checked = 0;

    private Check() {
    }

    static void due(String call, long got, long want) {
        checked++;
        if (got != want) {
            wrong++;
            if (wrong <= 40) {
                System.out.println(call + " answered " + got + ", due is " + want);
            }
        }
    }

    static void due(String call, boolean got, boolean want) {
        due(call, got ? 1 : 0, want ? 1 : 0);
    }

    static int wrongOnes() {
        return wrong;
    }

    static void end() {
        System.out.println(checked + " answers, " + wrong + " of them wrong");
        if (wrong != 0 || checked == 0) {
            System.exit(1);
        }
    }

    /** The text behind the tape, 24 signs a call; what the last call answered. */
    static int feed(SwapAssize x, String text) {
        int length = x.feed(0, 0, 0);
        for (int at = 0; at < text.length(); at += 24) {
            length = x.feed(eight(text, at), eight(text, at + 8), eight(text, at + 16));
        }
        return length;
    }

    private static long eight(String text, int at) {
        long signs = 0;
        for (int n = at; n < at + 8; n++) {
            signs = signs << 8 | (n < text.length() ? text.charAt(n) & 255 : 0);
        }
        return signs;
    }

    static int assize(SwapAssize x, String text) {
        feed(x, text);
        return x.assize();
    }

    static int term(SwapAssize x, String text) {
        feed(x, text);
        return x.term();
    }

    static SwapAssize of(String assize) {
        SwapAssize x = new SwapAssize();
        due("assize of " + assize, assize(x, assize), 0);
        return x;
    }
}

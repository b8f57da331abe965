/** Assizes that the tests tell, and all that can be seen of one. */
final class Texts {
    private Texts() {
    }

    /** Judges who give a case its guilt: ja, jb, .. */
    static String even(int judges) {
        StringBuilder text = new StringBuilder();
        for (int n = 0; n < judges; n++) {
            text.append("judge j").append((char) ('a' + n)).append(" plain leans 10;");
        }
        return text.toString();
    }

    /** Cases that are up on a day: cae, cbe, .. on day 0, caf, .. on day 1, and so on. */
    static String cases(int day, int... guilts) {
        StringBuilder text = new StringBuilder();
        for (int n = 0; n < guilts.length; n++) {
            text.append("case c").append((char) ('a' + n)).append((char) ('e' + day));
            text.append(" guilt ").append(guilts[n]).append(" on ").append(day).append(";");
        }
        return text.toString();
    }

    /** What a MARK holds, as far as it can be seen. */
    static String held(SwapAssize x) {
        StringBuilder text = new StringBuilder();
        for (int what : new int[] {2, 3, 4, 5, 7}) {
            text.append(x.count(what)).append(' ');
        }
        for (int judge = 0; judge < x.count(0); judge++) {
            text.append(": ").append(x.judge(judge, 0)).append(' ').append(x.judge(judge, 1)).append(' ').append(x.judge(judge, 2));
        }
        for (int trial = 0; trial < x.count(1); trial++) {
            text.append("; ").append(x.trial(trial, 0)).append(' ').append(x.trial(trial, 1));
            text.append(' ').append(x.trial(trial, 2)).append(' ').append(x.trial(trial, 3));
        }
        return text.append(", ").append(x.shifts()).toString();
    }

    /** All that can be seen without doing anything: what a refused call must leave. */
    static String all(SwapAssize x) {
        StringBuilder text = new StringBuilder(held(x));
        for (int what : new int[] {0, 1, 6, 8, 9}) {
            text.append(' ').append(x.count(what));
        }
        return text.append(' ').append(x.judged(2)).toString();
    }

    /** Numbers on both sides of what is right, near and far, and those that a mask or a shift would make right. */
    static int[] outside(int least, int most) {
        return new int[] {least - 1, least - 2, least - 7, least - 8, least - 32, least - 64, least - 256, least - 65536, Integer.MIN_VALUE,
            Integer.MIN_VALUE + Math.max(least, 0) + 1, most + 1, most + 2, most + 7, most + 8, most + 32, most + 64, most + 256, most + 65536,
            Integer.MAX_VALUE - 1, Integer.MAX_VALUE};
    }
}

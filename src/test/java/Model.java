import java.util.ArrayDeque;
import java.util.ArrayList;
import java.util.Arrays;
import java.util.Deque;
import java.util.HashSet;
import java.util.LinkedHashMap;
import java.util.List;
import java.util.Map;
import java.util.Set;
import java.util.regex.Matcher;
import java.util.regex.Pattern;

/** The document once more, by the slowest and plainest means: everything is told by holding the days for real. */
final class Model {
    static final int NONE = -1;
    private static final Pattern TOKENS = Pattern.compile("[a-z]+|[0-9]+|[^\\n ]");
    private static final Set<String> RESERVED = Set.of("judge", "leans", "case", "guilt", "on", "chairs", "deals", "day", "plead", "lean",
        "change", "plain", "stern", "mild", "same", "not", "and", "or");
    private static final List<String> KINDS = List.of("plain", "stern", "mild", "same");
    private static final Set<String> FACTS = Set.of("nth", "many", "today", "grief");

    record Token(String text, int place) {
        boolean isWord() {
            return text.matches("[a-z]{1,8}");
        }

        boolean isName() {
            return isWord() && !RESERVED.contains(text);
        }

        boolean isNumber() {
            return text.matches("[0-9]{1,4}");
        }

        int value() {
            return Integer.parseInt(text);
        }
    }

    static final class Wrong extends Exception {
        private static final long serialVersionUID = 1;
        final int fault;

        Wrong(int kind, Token token) {
            fault = kind + 16 * token.place();
        }
    }

    /** All that is told and all that changes. */
    static final class World {
        Map<String, Integer> names = new LinkedHashMap<>();
        List<Integer> kinds = new ArrayList<>();
        List<Integer> guilts = new ArrayList<>();
        List<String> law = List.of("1");
        List<Integer> leans = new ArrayList<>();
        List<Integer> up = new ArrayList<>();
        List<Integer> had = new ArrayList<>();
        List<Integer> seats = new ArrayList<>();
        int days;

        World copy() {
            World w = new World();
            w.names = names;
            w.kinds = kinds;
            w.guilts = guilts;
            w.law = law;
            w.leans = new ArrayList<>(leans);
            w.up = new ArrayList<>(up);
            w.had = new ArrayList<>(had);
            w.seats = new ArrayList<>(seats);
            w.days = days;
            return w;
        }

        int next() {
            return days % 4;
        }

        int total() {
            return had.stream().mapToInt(n -> n).sum();
        }

        List<Integer> heardOn(int day) {
            List<Integer> heard = new ArrayList<>();
            for (int c = 0; c < up.size(); c++) {
                if (up.get(c) == day) {
                    heard.add(c);
                }
            }
            return heard.subList(0, Math.min(heard.size(), kinds.size()));
        }

        int gives(int judge, int c) {
            int kind = kinds.get(judge);
            int plain = guilts.get(c) + leans.get(judge) - 10;
            int amount = kind == 3 ? 10 : kind == 1 ? plain + 5 : kind == 2 && plain > 0 ? plain / 2 : plain;
            return amount < 0 ? 0 : amount > 40 ? 40 : amount;
        }

        void change(int one, int other) {
            int a = seats.indexOf(one);
            int b = seats.indexOf(other);
            seats.set(a, other);
            seats.set(b, one);
        }

        /** Whose verdict (place) each place gets on the day that is next. */
        int[] deal() {
            List<Integer> heard = heardOn(next());
            int m = heard.size();
            int[] sources = new int[m];
            Arrays.fill(sources, NONE);
            for (int n = 0; n < m; n++) {
                long to = (long) n + new Teller(law, n, m, next(), total()).tell();
                while (to < 0 || to >= m) {
                    to = Math.floorMod(to, (long) m);
                }
                while (sources[(int) to] != NONE) {
                    to = (to + 1) % m;
                }
                sources[(int) to] = n;
            }
            return sources;
        }

        /** What each case gets on the day that is next, which is held then. */
        Map<Integer, Integer> hold() {
            List<Integer> heard = heardOn(next());
            int[] sources = deal();
            Map<Integer, Integer> got = new LinkedHashMap<>();
            for (int n = 0; n < heard.size(); n++) {
                got.put(heard.get(n), gives(seats.get(sources[n]), heard.get(sources[n])));
            }
            got.forEach((c, amount) -> had.set(c, Math.min(9999, had.get(c) + amount)));
            days++;
            return got;
        }

        World until(int day) {
            World w = copy();
            while (w.next() != day) {
                w.hold();
            }
            return w;
        }
    }

    /** Tells an E from its tokens, each time anew. */
    static final class Teller {
        private final List<String> tokens;
        private final Map<String, Integer> facts;
        private int at;

        Teller(List<String> tokens, int nth, int many, int today, int grief) {
            this.tokens = tokens;
            facts = Map.of("nth", nth, "many", many, "today", today, "grief", grief);
        }

        private String peek() {
            return at < tokens.size() ? tokens.get(at) : "";
        }

        int tell() {
            int left = test();
            while (peek().equals("and") || peek().equals("or")) {
                boolean and = tokens.get(at++).equals("and");
                int right = test();
                left = and ? left != 0 & right != 0 ? 1 : 0 : left != 0 | right != 0 ? 1 : 0;
            }
            return left;
        }

        private int test() {
            int left = sum();
            if (peek().equals("<")) {
                at++;
                return left < sum() ? 1 : 0;
            }
            if (peek().equals("=")) {
                at++;
                return left == sum() ? 1 : 0;
            }
            return left;
        }

        private int sum() {
            int left = product();
            while (peek().equals("+") || peek().equals("-")) {
                int sign = tokens.get(at++).equals("+") ? 1 : -1;
                left += sign * product();
            }
            return left;
        }

        private int product() {
            int left = part();
            while (peek().equals("*")) {
                at++;
                left *= part();
            }
            return left;
        }

        private int part() {
            String token = tokens.get(at++);
            if (token.equals("not")) {
                return part() == 0 ? 1 : 0;
            }
            if (token.equals("(")) {
                int value = tell();
                at++;
                return value;
            }
            return facts.containsKey(token) ? facts.get(token) : Integer.parseInt(token);
        }
    }

    StringBuilder tape = new StringBuilder();
    World begin = new World();
    World now = new World();
    List<Token[]> term = new ArrayList<>();
    Deque<World> undo = new ArrayDeque<>();
    List<int[]> seen = new ArrayList<>();
    World[] markedWorlds = new World[4];
    List<List<int[]>> markedSeen = new ArrayList<>(Arrays.asList(null, null, null, null));
    private Deque<Token> tokens = new ArrayDeque<>();
    private Token end;

    int feed(long... eights) {
        for (long eight : eights) {
            for (int n = 7; n >= 0; n--) {
                char sign = (char) (eight >>> 8 * n & 255);
                if ((sign == 10 || sign >= 32 && sign < 127) && tape.length() < 1000) {
                    tape.append(sign);
                }
            }
        }
        return tape.length();
    }

    private void cut() {
        tokens = new ArrayDeque<>();
        Matcher matcher = TOKENS.matcher(tape);
        while (matcher.find()) {
            tokens.add(new Token(matcher.group(), matcher.start()));
        }
        end = new Token("", tape.length());
        tape.setLength(0);
    }

    private Token look() {
        return tokens.isEmpty() ? end : tokens.peek();
    }

    private Token take(String text) throws Wrong {
        if (!look().text().equals(text)) {
            throw new Wrong(1, look());
        }
        return tokens.poll();
    }

    private int takeNumber(int most) throws Wrong {
        if (!look().isNumber()) {
            throw new Wrong(1, look());
        }
        if (look().value() > most) {
            throw new Wrong(4, look());
        }
        return tokens.poll().value();
    }

    private Token takeName() throws Wrong {
        if (!look().isName()) {
            throw new Wrong(1, look());
        }
        return tokens.poll();
    }

    /** Names hold a judge's number, or a case's and 100. */
    private static int named(World w, Token name, boolean judge) throws Wrong {
        int n = w.names.getOrDefault(name.text(), NONE);
        if (n == NONE || judge != n < 100) {
            throw new Wrong(2, name);
        }
        return n % 100;
    }

    int assize() {
        cut();
        World w = new World();
        Set<Set<Integer>> pairs = new HashSet<>();
        boolean dealt = false;
        try {
            while (look() != end) {
                Token first = look();
                if (first.text().equals("judge")) {
                    readJudge(w);
                } else if (first.text().equals("case")) {
                    readCase(w);
                } else if (first.text().equals("chairs")) {
                    readChairs(w, pairs);
                } else if (first.text().equals("deals")) {
                    if (dealt) {
                        throw new Wrong(3, first);
                    }
                    dealt = true;
                    readLaw(w);
                } else {
                    throw new Wrong(1, first);
                }
            }
        } catch (Wrong e) {
            return e.fault;
        }
        begin = w;
        now = w.copy();
        term = new ArrayList<>();
        undo.clear();
        seen = new ArrayList<>();
        markedWorlds = new World[4];
        return 0;
    }

    private Token takeNewName(World w) throws Wrong {
        Token name = takeName();
        if (w.names.containsKey(name.text())) {
            throw new Wrong(3, name);
        }
        return name;
    }

    private void readJudge(World w) throws Wrong {
        Token first = take("judge");
        if (w.kinds.size() == 7) {
            throw new Wrong(5, first);
        }
        Token name = takeNewName(w);
        int kind = KINDS.indexOf(look().text());
        if (kind < 0) {
            throw new Wrong(1, look());
        }
        tokens.poll();
        take("leans");
        int leans = takeNumber(20);
        take(";");
        w.names.put(name.text(), w.kinds.size());
        w.seats.add(w.kinds.size());
        w.kinds.add(kind);
        w.leans.add(leans);
    }

    private void readCase(World w) throws Wrong {
        Token first = take("case");
        if (w.guilts.size() == 7) {
            throw new Wrong(5, first);
        }
        Token name = takeNewName(w);
        take("guilt");
        int guilt = takeNumber(20);
        take("on");
        int day = takeNumber(3);
        take(";");
        w.names.put(name.text(), 100 + w.guilts.size());
        w.guilts.add(guilt);
        w.up.add(day);
        w.had.add(0);
    }

    private void readChairs(World w, Set<Set<Integer>> pairs) throws Wrong {
        take("chairs");
        int one = named(w, takeName(), true);
        Token second = takeName();
        int other = named(w, second, true);
        if (one == other || !pairs.add(Set.of(one, other))) {
            throw new Wrong(3, second);
        }
        take(";");
        w.change(one, other);
    }

    /**
     * By what may come next rather than by the grammar: an operand or what stands behind one. The
     * stack has a '(' or an 'n' (not) for each that is open; compared holds, by level of ( ), whether
     * a test there has its < or =.
     */
    private void readLaw(World w) throws Wrong {
        take("deals");
        List<String> law = new ArrayList<>();
        Deque<Character> open = new ArrayDeque<>();
        Deque<Boolean> compared = new ArrayDeque<>();
        compared.push(false);
        boolean operand = true;
        while (true) {
            Token token = look();
            String text = token.text();
            if (operand) {
                boolean plain = token.isNumber() || FACTS.contains(text);
                if (!plain && !text.equals("not") && !text.equals("(")) {
                    throw new Wrong(1, token);
                }
                if (open.size() >= 5) {
                    throw new Wrong(5, token);
                }
                if (text.equals("not")) {
                    open.push('n');
                } else if (text.equals("(")) {
                    open.push('(');
                    compared.push(false);
                } else {
                    operand = false;
                }
            } else if (text.equals(")") && compared.size() > 1) {
                open.pop();
                compared.pop();
            } else if (text.equals("and") || text.equals("or")) {
                compared.pop();
                compared.push(false);
                operand = true;
            } else if ((text.equals("<") || text.equals("=")) && !compared.peek()) {
                compared.pop();
                compared.push(true);
                operand = true;
            } else if (text.equals("+") || text.equals("-") || text.equals("*")) {
                operand = true;
            } else if (text.equals(";") && compared.size() == 1) {
                break;
            } else {
                throw new Wrong(1, token);
            }
            while (!operand && !open.isEmpty() && open.peek() == 'n') {
                open.pop();
            }
            law.add(text);
            tokens.poll();
        }
        take(";");
        w.law = law;
    }

    int term() {
        cut();
        List<Token[]> lines = new ArrayList<>();
        try {
            while (look() != end) {
                lines.add(readLine(lines.size()));
            }
        } catch (Wrong e) {
            return e.fault;
        }
        term = lines;
        return 0;
    }

    private Token[] readLine(int many) throws Wrong {
        Token word = look();
        if (!List.of("day", "plead", "lean", "change").contains(word.text())) {
            throw new Wrong(1, word);
        }
        if (many == 40) {
            throw new Wrong(5, word);
        }
        tokens.poll();
        Token first = end;
        Token second = end;
        if (!word.text().equals("day")) {
            first = takeName();
            int one = named(begin, first, !word.text().equals("plead"));
            second = look();
            if (word.text().equals("plead")) {
                takeNumber(3);
            } else if (word.text().equals("lean")) {
                takeNumber(20);
            } else {
                takeName();
                if (named(begin, second, true) == one) {
                    throw new Wrong(3, second);
                }
            }
        }
        take(";");
        return new Token[] {word, first, second};
    }

    private boolean isCase(int c) {
        return c >= 0 && c < now.guilts.size();
    }

    private boolean isJudge(int j) {
        return j >= 0 && j < now.kinds.size();
    }

    private static boolean isDay(int d) {
        return d >= 0 && d <= 3;
    }

    private static int bits(Iterable<Integer> numbers) {
        int bits = 0;
        for (int n : numbers) {
            bits |= 1 << n;
        }
        return bits;
    }

    int judge(int j, int what) {
        if (!isJudge(j) || what < 0 || what > 2) {
            return NONE;
        }
        return what == 0 ? now.kinds.get(j) : what == 1 ? now.leans.get(j) : now.seats.indexOf(j);
    }

    int trial(int c, int what) {
        if (!isCase(c) || what < 0 || what > 3) {
            return -2;
        }
        return what == 0 ? now.guilts.get(c) : what == 1 ? now.up.get(c) : what == 2 ? now.had.get(c) : gets(c);
    }

    private void done() {
        undo.push(now.copy());
        if (undo.size() > 16) {
            undo.removeLast();
        }
    }

    int day() {
        done();
        return bits(now.hold().keySet());
    }

    int plead(int c, int day) {
        if (!isCase(c) || !isDay(day)) {
            return NONE;
        }
        done();
        return now.up.set(c, day);
    }

    int lean(int j, int leans) {
        if (!isJudge(j) || leans < 0 || leans > 20) {
            return NONE;
        }
        done();
        return now.leans.set(j, leans);
    }

    boolean change(int one, int other) {
        if (!isJudge(one) || !isJudge(other) || one == other) {
            return false;
        }
        done();
        now.change(one, other);
        return true;
    }

    boolean undo() {
        if (undo.isEmpty()) {
            return false;
        }
        now = undo.pop();
        return true;
    }

    int judged(int what) {
        if (what < 0 || what > 2) {
            return -2;
        }
        World w = begin.copy();
        int much = NONE;
        int own = NONE;
        for (int n = 0; n < term.size(); n++) {
            Token[] line = term.get(n);
            int first = w.names.getOrDefault(line[1].text(), 0) % 100;
            switch (line[0].text()) {
                case "plead" -> w.up.set(first, line[2].value());
                case "lean" -> w.leans.set(first, line[2].value());
                case "change" -> w.change(first, w.names.get(line[2].text()));
                default -> {
                    int[] deal = w.deal();
                    boolean anyOwn = false;
                    for (int k = 0; k < deal.length; k++) {
                        anyOwn |= deal[k] == k && deal.length > 1;
                    }
                    boolean anyMuch = w.hold().values().stream().anyMatch(a -> a >= 20);
                    much = much == NONE && anyMuch ? n : much;
                    own = own == NONE && anyOwn ? n : own;
                }
            }
        }
        return what == 0 ? much : what == 1 ? own : w.total();
    }

    int hears(int c) {
        if (!isCase(c)) {
            return NONE;
        }
        int place = now.heardOn(now.up.get(c)).indexOf(c);
        return place < 0 ? NONE : now.seats.get(place);
    }

    int gives(int j, int c) {
        return isJudge(j) && isCase(c) ? now.gives(j, c) : NONE;
    }

    int from(int c) {
        if (hears(c) == NONE) {
            return NONE;
        }
        World w = now.until(now.up.get(c));
        return w.seats.get(w.deal()[w.heardOn(w.next()).indexOf(c)]);
    }

    int gets(int c) {
        return hears(c) == NONE ? NONE : now.until(now.up.get(c)).hold().get(c);
    }

    int best(int c) {
        if (!isCase(c)) {
            return NONE;
        }
        int best = NONE;
        int least = 0;
        for (int day = 0; day < 4; day++) {
            World w = now.copy();
            w.up.set(c, day);
            int amount = w.until(day).hold().getOrDefault(c, 0);
            if (best == NONE || amount < least) {
                best = day;
                least = amount;
            }
        }
        return best;
    }

    private static int fourDays(World w) {
        World then = w.copy();
        int together = 0;
        for (int n = 0; n < 4; n++) {
            together += then.hold().values().stream().mapToInt(a -> a).sum();
        }
        return together;
    }

    int plan(int what) {
        if (what != NONE && !isCase(what)) {
            return -2;
        }
        int cases = now.guilts.size();
        int best = NONE;
        int least = 0;
        for (int row = 0; row < 1 << 2 * cases; row++) {
            World w = now.copy();
            for (int c = 0; c < cases; c++) {
                w.up.set(c, row >> 2 * (cases - 1 - c) & 3);
            }
            int together = fourDays(w);
            if (best == NONE || together < least) {
                best = row;
                least = together;
            }
        }
        return what == NONE ? least : best >> 2 * (cases - 1 - what) & 3;
    }

    /** The deals by which nobody gets their own: how many, and the least greatest difference. */
    private int[] strangeDeals(int day) {
        List<Integer> heard = now.heardOn(day);
        int[] amounts = new int[heard.size()];
        for (int n = 0; n < amounts.length; n++) {
            amounts[n] = now.gives(now.seats.get(n), heard.get(n));
        }
        int[] found = {0, Integer.MAX_VALUE};
        dealOn(amounts, 0, 0, 0, found);
        return found;
    }

    private static void dealOn(int[] amounts, int place, int used, int worst, int[] found) {
        if (place == amounts.length) {
            found[0]++;
            found[1] = Math.min(found[1], worst);
            return;
        }
        for (int n = 0; n < amounts.length; n++) {
            if (n != place && (used >> n & 1) == 0) {
                dealOn(amounts, place + 1, used | 1 << n, Math.max(worst, Math.abs(amounts[n] - amounts[place])), found);
            }
        }
    }

    int lightest(int day) {
        if (!isDay(day) || now.heardOn(day).isEmpty()) {
            return NONE;
        }
        int[] found = strangeDeals(day);
        return found[0] == 0 ? NONE : found[1];
    }

    int strange(int day) {
        return isDay(day) ? strangeDeals(day)[0] : NONE;
    }

    int own(int day) {
        if (!isDay(day)) {
            return NONE;
        }
        World w = now.until(day);
        int[] deal = w.deal();
        int bits = 0;
        for (int n = 0; n < deal.length; n++) {
            bits |= deal[n] == n ? 1 << w.heardOn(day).get(n) : 0;
        }
        return bits;
    }

    int later(int c, int days) {
        if (!isCase(c) || days < 0 || days > 60) {
            return NONE;
        }
        World w = now.copy();
        for (int n = 0; n < days; n++) {
            w.hold();
        }
        return w.had.get(c);
    }

    int reaches(int c, int much) {
        if (!isCase(c) || much < 0 || much > 9999) {
            return NONE;
        }
        for (int days = 0; days <= 60; days++) {
            if (later(c, days) >= much) {
                return days;
            }
        }
        return NONE;
    }

    int grief(int days) {
        if (days < 0 || days > 60) {
            return NONE;
        }
        int together = 0;
        for (int c = 0; c < now.guilts.size(); c++) {
            together += later(c, days);
        }
        return together;
    }

    int heavy() {
        int heaviest = 0;
        int most = NONE;
        for (int day = 0; day < 4; day++) {
            int together = now.until(day).hold().values().stream().mapToInt(a -> a).sum();
            if (together > most) {
                heaviest = day;
                most = together;
            }
        }
        return heaviest;
    }

    private List<Integer> loopLengths(int day) {
        int[] deal = now.until(day).deal();
        List<Integer> lengths = new ArrayList<>();
        Set<Integer> gone = new HashSet<>();
        for (int n = 0; n < deal.length; n++) {
            int length = 0;
            for (int at = n; gone.add(at); at = deal[at]) {
                length++;
            }
            if (length > 0) {
                lengths.add(length);
            }
        }
        return lengths;
    }

    int back(int day) {
        if (!isDay(day) || now.heardOn(day).isEmpty()) {
            return NONE;
        }
        int deals = 1;
        while (true) {
            final int tried = deals;
            if (loopLengths(day).stream().allMatch(length -> tried % length == 0)) {
                return deals;
            }
            deals++;
        }
    }

    int loops(int day) {
        return isDay(day) ? loopLengths(day).size() : NONE;
    }

    int uneven() {
        return now.had.stream().mapToInt(n -> n).max().orElse(0) - now.had.stream().mapToInt(n -> n).min().orElse(0);
    }

    int lucky() {
        int lucky = NONE;
        int least = 0;
        for (int c = 0; c < now.had.size(); c++) {
            int luck = now.had.get(c) - now.guilts.get(c) * (now.days / 4);
            if (lucky == NONE || luck < least) {
                lucky = c;
                least = luck;
            }
        }
        return lucky;
    }

    boolean see(int c, int j, boolean got) {
        if (!isCase(c) || !isJudge(j) || seen.size() == 8) {
            return false;
        }
        seen.add(new int[] {c, j, got ? 1 : 0});
        return true;
    }

    private boolean gotBy(int c, int j, int places) {
        List<Integer> heard = now.heardOn(now.up.get(c));
        for (int n = 0; n < heard.size(); n++) {
            if (now.seats.get(n) == j && heard.get((n + places) % heard.size()) == c) {
                return true;
            }
        }
        return false;
    }

    int shifts() {
        int bits = 0;
        for (int places = 0; places < 7; places++) {
            final int s = places;
            if (seen.stream().allMatch(one -> gotBy(one[0], one[1], s) == (one[2] == 1))) {
                bits |= 1 << places;
            }
        }
        return bits;
    }

    int ask() {
        int left = shifts();
        int asked = NONE;
        int least = Integer.bitCount(left);
        for (int c = 0; c < now.guilts.size(); c++) {
            for (int j = 0; j < now.kinds.size(); j++) {
                int[] parts = {0, 0};
                for (int s = 0; s < 7; s++) {
                    if ((left >> s & 1) == 1) {
                        parts[gotBy(c, j, s) ? 1 : 0]++;
                    }
                }
                if (Math.max(parts[0], parts[1]) < least) {
                    least = Math.max(parts[0], parts[1]);
                    asked = 8 * c + j;
                }
            }
        }
        return asked;
    }

    int swap() {
        int pair = NONE;
        int least = fourDays(now);
        for (int one = 0; one < now.kinds.size(); one++) {
            for (int other = one + 1; other < now.kinds.size(); other++) {
                World w = now.copy();
                w.change(one, other);
                if (fourDays(w) < least) {
                    least = fourDays(w);
                    pair = 8 * one + other;
                }
            }
        }
        return pair;
    }

    int harsh() {
        int harsh = NONE;
        int most = 0;
        for (int j = 0; j < now.kinds.size(); j++) {
            int together = 0;
            for (int c = 0; c < now.guilts.size(); c++) {
                together += now.gives(j, c);
            }
            if (harsh == NONE || together > most) {
                harsh = j;
                most = together;
            }
        }
        return harsh;
    }

    int crowd(int day) {
        if (!isDay(day)) {
            return NONE;
        }
        int bits = 0;
        for (int c = 0; c < now.up.size(); c++) {
            bits |= now.up.get(c) == day ? 1 << c : 0;
        }
        return bits;
    }

    int idle() {
        int bits = (1 << now.kinds.size()) - 1;
        for (int c = 0; c < now.up.size(); c++) {
            bits &= hears(c) == NONE ? ~0 : ~(1 << hears(c));
        }
        return bits;
    }

    int mercy(int c) {
        int mildest = NONE;
        for (int j = 0; j < now.kinds.size() && isCase(c); j++) {
            if (mildest == NONE || now.gives(j, c) < now.gives(mildest, c)) {
                mildest = j;
            }
        }
        return mildest;
    }

    int spared() {
        int bits = 0;
        for (int c = 0; c < now.up.size(); c++) {
            if (hears(c) != NONE && gets(c) < gives(hears(c), c)) {
                bits |= 1 << c;
            }
        }
        return bits;
    }

    int chance(int c, int much, int odds) {
        if (hears(c) == NONE || much < 1 || much > 40 || odds < 0 || odds > 10) {
            return NONE;
        }
        long seventieths = gets(c) >= much ? odds * 7 : 0;
        List<Integer> heard = now.heardOn(now.up.get(c));
        for (int places = 0; places < 7; places++) {
            for (int n = 0; n < heard.size(); n++) {
                if (heard.get((n + places) % heard.size()) == c && now.gives(now.seats.get(n), heard.get(n)) >= much) {
                    seventieths += 10 - odds;
                }
            }
        }
        return (int) (seventieths * 1000000 / 70);
    }

    int terms(int seed, int days, int what) {
        if (seed < 0 || seed > 9999 || days < 1 || days > 99 || what < 0 || what > 2) {
            return -2;
        }
        World w = now.copy();
        long[] g = {seed};
        int judges = w.kinds.size();
        int cases = w.guilts.size();
        for (int n = 0; n < days; n++) {
            int act = judges > 0 && cases > 0 ? draw(g, 5) : 4;
            if (act == 0) {
                int c = draw(g, cases);
                w.up.set(c, draw(g, 4));
            } else if (act == 1) {
                int j = draw(g, judges);
                w.leans.set(j, draw(g, 21));
            } else if (act == 2) {
                int one = draw(g, judges);
                int other = draw(g, judges);
                if (one != other) {
                    w.change(one, other);
                }
            }
            w.hold();
        }
        if (what == 0) {
            return w.total() - now.total();
        }
        if (what == 1) {
            return w.had.stream().mapToInt(a -> a).max().orElse(0);
        }
        return judges == 0 ? NONE : w.leans.indexOf(w.leans.stream().mapToInt(a -> a).max().orElse(0));
    }

    private static int draw(long[] g, int below) {
        g[0] = (g[0] * 1103515245L + 12345L) % 2147483648L;
        return (int) (g[0] / 65536 % below);
    }

    boolean mark(int mark, boolean back) {
        if (mark < 0 || mark > 3 || back && markedWorlds[mark] == null) {
            return false;
        }
        if (back) {
            now = markedWorlds[mark].copy();
            seen = new ArrayList<>(markedSeen.get(mark));
            undo.clear();
        } else {
            markedWorlds[mark] = now.copy();
            markedSeen.set(mark, new ArrayList<>(seen));
        }
        return true;
    }

    int count(int what) {
        return switch (what) {
            case 0 -> now.kinds.size();
            case 1 -> now.guilts.size();
            case 2 -> now.next();
            case 3 -> now.days / 4;
            case 4 -> now.total();
            case 5 -> bits(now.heardOn(now.next()));
            case 6 -> term.size();
            case 7 -> seen.size();
            case 8 -> undo.size();
            case 9 -> tape.length();
            default -> NONE;
        };
    }
}

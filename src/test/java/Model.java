import java.util.ArrayList;
import java.util.Arrays;
import java.util.List;

/**
 * The document once more, as slow and as literal as it goes: who spoke last is kept, to be STILL is searched
 * like any other move, plays and orders are listed one by one. FuzzTest holds LastWords against it.
 */
final class Model {
    /** Thrown at the first FAULT of a text. */
    static final class Fault extends RuntimeException {
        private static final long serialVersionUID = 1L;
        final int number;

        Fault(int place, int kind) {
            number = 1 + 8 * place + kind;
        }
    }

    static final class Corner {
        final List<Integer> verses = new ArrayList<>();
        final List<Integer> words = new ArrayList<>();
        final int[] purses = new int[2];
        int again = 0;
    }

    /** A quarrel as it stands; never changed, each move makes another one. */
    static final class Q {
        int verse, left, turn, moves, hat, spoke = -1, winner = -1;
        boolean goes;
        int[] purse = new int[2], last = {-1, -1}, said = new int[2];

        Q copy() {
            Q q = new Q();
            q.verse = verse;
            q.left = left;
            q.turn = turn;
            q.moves = moves;
            q.hat = hat;
            q.spoke = spoke;
            q.winner = winner;
            q.goes = goes;
            q.purse = purse.clone();
            q.last = last.clone();
            q.said = said.clone();
            return q;
        }
    }

    interface Test {
        boolean holds(Q q);
    }

    interface Value {
        long of(Q q);
    }

    record Clause(int deed, Test test) {
    }

    private static final int STILL = 5;

    private final StringBuilder tape = new StringBuilder();
    private final List<List<Clause>> rules = new ArrayList<>();
    private Corner corner = null;
    private Q q = new Q();
    private int[] won = new int[2];
    private List<int[]> waiting = new ArrayList<>();
    private long x = 0;
    private final Object[][] images = new Object[4][];
    /** Who can have it, of the quarrels that were asked of last: all of one corner and one verse. */
    private final byte[] known = new byte[1 << 23];
    private Corner knownOf = null;
    private int knownVerse = 0;

    /** One with a corner. */
    static Model at(String corner) {
        Model model = new Model();
        model.tape.append(corner);
        model.corner();
        return model;
    }

    // ---- texts ----

    private String text;
    private int at;
    private int nodes;

    private void blanks() {
        while (at < text.length() && text.charAt(at) == ' ') {
            at++;
        }
    }

    private String name() {
        blanks();
        int to = at;
        while (to < text.length() && text.charAt(to) >= 'a' && text.charAt(to) <= 'z') {
            to++;
        }
        return text.substring(at, to);
    }

    private boolean takeName(String wanted) {
        if (name().equals(wanted)) {
            at += wanted.length();
            return true;
        }
        return false;
    }

    private boolean takeSign(char sign) {
        blanks();
        if (at < text.length() && text.charAt(at) == sign) {
            at++;
            return true;
        }
        return false;
    }

    private int number(int least, int most) {
        blanks();
        int to = at;
        while (to < text.length() && Character.digit(text.charAt(to), 10) >= 0 && text.charAt(to) < 128) {
            to++;
        }
        if (to == at) {
            throw new Fault(at, 0);
        }
        if (to - at > 5) {
            throw new Fault(at, 1);
        }
        int value = Integer.parseInt(text.substring(at, to));
        if (value < least || value > most) {
            throw new Fault(at, 1);
        }
        at = to;
        return value;
    }

    private boolean another() {
        blanks();
        if (at == text.length()) {
            return false;
        }
        if (!takeSign(';')) {
            throw new Fault(at, 0);
        }
        return true;
    }

    private Corner readCorner() {
        Corner c = new Corner();
        int clauses = 0;
        int agains = 0;
        do {
            String name = name();
            int here = at;
            if (!List.of("tune", "word", "purse", "again").contains(name)) {
                throw new Fault(here, 0);
            }
            clauses++;
            if (clauses > 16 || name.equals("tune") && c.verses.size() == 4 || name.equals("word") && c.words.size() == 4
                    || name.equals("again") && agains == 1) {
                throw new Fault(here, 4);
            }
            at += name.length();
            switch (name) {
                case "tune" -> {
                    int bars = number(1, 9);
                    c.verses.add(bars * number(1, 8));
                }
                case "word" -> c.words.add(number(1, 9));
                case "purse" -> {
                    int side = number(0, 1);
                    c.purses[side] = number(0, 7);
                }
                default -> {
                    c.again = number(0, 9);
                    agains++;
                }
            }
        } while (another());
        if (c.verses.isEmpty() || c.words.isEmpty()) {
            throw new Fault(at, 0);
        }
        return c;
    }

    private List<Clause> readRule() {
        List<Clause> clauses = new ArrayList<>();
        nodes = 0;
        do {
            String name = name();
            if (!List.of("say", "throw", "still").contains(name)) {
                throw new Fault(at, 0);
            }
            if (clauses.size() == 12) {
                throw new Fault(at, 4);
            }
            at += name.length();
            int deed = name.equals("say") ? number(0, 3) : name.equals("throw") ? 4 : STILL;
            clauses.add(new Clause(deed, takeName("if") ? test(0) : any -> true));
        } while (another());
        return clauses;
    }

    private Test test(int deep) {
        Test one = part(deep);
        while (takeName("or")) {
            Test left = one;
            Test right = part(deep);
            one = s -> left.holds(s) || right.holds(s);
        }
        return one;
    }

    private Test part(int deep) {
        Test one = fact(deep);
        while (takeName("and")) {
            Test left = one;
            Test right = fact(deep);
            one = s -> left.holds(s) && right.holds(s);
        }
        return one;
    }

    private Test fact(int deep) {
        blanks();
        int here = at;
        if (takeName("not")) {
            if (deep == 10) {
                throw new Fault(here, 2);
            }
            Test inner = fact(deep + 1);
            return s -> !inner.holds(s);
        }
        if (takeSign('[')) {
            if (deep == 10) {
                throw new Fault(here, 2);
            }
            Test inner = test(deep + 1);
            if (!takeSign(']')) {
                throw new Fault(at, 0);
            }
            return inner;
        }
        Value left = sum();
        blanks();
        here = at;
        String sign = "";
        for (String s : List.of("<=", ">=", "<", "=", ">")) {
            if (sign.isEmpty() && text.startsWith(s, at)) {
                sign = s;
            }
        }
        if (sign.isEmpty()) {
            throw new Fault(here, 0);
        }
        node(here);
        at += sign.length();
        Value right = sum();
        String kind = sign;
        return s -> {
            int way = Long.compare(left.of(s), right.of(s));
            return way < 0 && kind.contains("<") || way == 0 && kind.contains("=") || way > 0 && kind.contains(">");
        };
    }

    private void node(int here) {
        nodes++;
        if (nodes > 60) {
            throw new Fault(here, 3);
        }
    }

    private Value sum() {
        Value one = term();
        while (true) {
            Value left = one;
            if (takeSign('+')) {
                Value right = term();
                one = s -> left.of(s) + right.of(s);
            } else if (takeSign('-')) {
                Value right = term();
                one = s -> left.of(s) - right.of(s);
            } else {
                return one;
            }
        }
    }

    private Value term() {
        Value one = value();
        while (true) {
            Value left = one;
            if (takeSign('*')) {
                Value right = value();
                one = s -> left.of(s) * right.of(s);
            } else if (takeSign('/')) {
                Value right = value();
                one = s -> right.of(s) == 0 ? 0 : left.of(s) / right.of(s);
            } else {
                return one;
            }
        }
    }

    private Value value() {
        String name = name();
        int here = at;
        if (name.isEmpty()) {
            long number = number(0, 99999);
            node(here);
            return s -> number;
        }
        if (!List.of("side", "left", "verse", "mine", "theirs", "last", "heard", "said", "moves").contains(name)) {
            throw new Fault(here, 0);
        }
        node(here);
        at += name.length();
        return s -> own(s, name);
    }

    private static long own(Q s, String name) {
        return switch (name) {
            case "side" -> s.turn;
            case "left" -> s.left;
            case "verse" -> s.verse;
            case "mine" -> s.purse[s.turn];
            case "theirs" -> s.purse[1 - s.turn];
            case "last" -> s.last[s.turn] < 0 ? 9 : s.last[s.turn];
            case "heard" -> s.last[1 - s.turn] < 0 ? 9 : s.last[1 - s.turn];
            case "said" -> s.said[s.turn];
            default -> s.moves;
        };
    }

    // ---- quarrels ----

    private int beats(Q s, int word) {
        return corner.words.get(word) + (s.last[s.turn] == word ? corner.again : 0);
    }

    private boolean may(Q s, int deed) {
        if (deed == STILL) {
            return true;
        }
        if (deed == 4) {
            return s.purse[s.turn] > 0 && s.left + s.verse <= 200;
        }
        return deed < corner.words.size() && beats(s, deed) <= s.left;
    }

    private Q over(Q s) {
        s.goes = false;
        s.winner = s.spoke >= 0 ? s.spoke : 1 - s.turn;
        return s;
    }

    private Q looked(Q s) {
        for (int deed = 0; deed < STILL; deed++) {
            if (may(s, deed)) {
                return s;
            }
        }
        return over(s);
    }

    private Q after(Q before, int deed) {
        Q s = before.copy();
        s.moves++;
        if (deed == STILL) {
            return over(s);
        }
        if (deed == 4) {
            s.purse[s.turn]--;
            s.hat++;
            s.left += s.verse;
            return looked(s);
        }
        s.left -= beats(s, deed);
        s.last[s.turn] = deed;
        s.said[s.turn]++;
        s.spoke = s.turn;
        s.turn = 1 - s.turn;
        return looked(s);
    }

    private Q started(int verse, int first, int zero, int one, int hat) {
        Q s = new Q();
        s.goes = true;
        s.verse = verse;
        s.left = verse;
        s.turn = first;
        s.hat = hat;
        s.purse[0] = zero;
        s.purse[1] = one;
        return looked(s);
    }

    private Q byRules(Q s, int one, int other) {
        while (s.goes) {
            int number = s.turn == 0 ? one : other;
            int deed = STILL;
            if (number >= 0) {
                for (Clause c : rules.get(number)) {
                    if (c.test.holds(s) && may(s, c.deed)) {
                        deed = c.deed;
                        break;
                    }
                }
            }
            s = after(s, deed);
        }
        return s;
    }

    /** Who can have it. */
    private int best(Q s) {
        if (!s.goes) {
            return s.winner;
        }
        if (knownOf != corner || knownVerse != s.verse) {
            Arrays.fill(known, (byte) -1);
            knownOf = corner;
            knownVerse = s.verse;
        }
        int key = keyOf(s);
        int found = known[key];
        if (found < 0) {
            found = 1 - s.turn;
            for (int deed = 0; deed <= STILL && found != s.turn; deed++) {
                if (may(s, deed) && best(after(s, deed)) == s.turn) {
                    found = s.turn;
                }
            }
            known[key] = (byte) found;
        }
        return found;
    }

    /** All that what can still come depends on, but the corner and the verse, in one number of 23 bits. */
    private static int keyOf(Q s) {
        int key = s.left;
        for (int side = 0; side < 2; side++) {
            key = key << 6 | s.last[side] + 1 << 3 | s.purse[side];
        }
        return key << 3 | s.turn << 2 | s.spoke + 1;
    }

    private Q with(Q s, int side, int pennies) {
        Q t = s.copy();
        t.purse[side] = pennies;
        return looked(t);
    }

    private void now(Q s) {
        q = s;
        if (!q.goes) {
            won[q.winner]++;
        }
    }

    private static boolean in(int n, int least, int most) {
        return n >= least && n <= most;
    }

    private boolean isRule(int n) {
        return in(n, 0, rules.size() - 1);
    }

    private int allWon() {
        return won[0] + won[1];
    }

    // ---- the face ----

    int feed(int a, int b, int c, int d, int e) {
        if (tape.length() > 380) {
            return -1;
        }
        for (int n : new int[] {a, b, c, d, e}) {
            tape.append((char) (n >>> 24)).append((char) (n >> 16 & 255)).append((char) (n >> 8 & 255)).append((char) (n & 255));
        }
        return tape.length();
    }

    int end(int n) {
        if (!in(n, 0, tape.length())) {
            return -1;
        }
        tape.setLength(n);
        return n;
    }

    private void takeTape() {
        text = tape.toString();
        tape.setLength(0);
        at = 0;
    }

    int corner() {
        takeTape();
        try {
            corner = readCorner();
        } catch (Fault f) {
            return -2 - f.number;
        }
        q = new Q();
        q.purse = corner.purses.clone();
        won = new int[2];
        waiting = new ArrayList<>();
        return corner.verses.size();
    }

    int rule() {
        if (rules.size() == 6) {
            return -1;
        }
        takeTape();
        try {
            rules.add(readRule());
        } catch (Fault f) {
            return -2 - f.number;
        }
        return rules.size() - 1;
    }

    int begin(int tune, int first) {
        if (corner == null || !in(tune, 0, corner.verses.size() - 1) || !in(first, 0, 1)) {
            return -1;
        }
        now(started(corner.verses.get(tune), first, q.purse[0], q.purse[1], q.hat));
        return q.left;
    }

    int speak(int word) {
        if (corner == null || !in(word, 0, corner.words.size() - 1)) {
            return -1;
        }
        if (!q.goes || !may(q, word)) {
            return -2;
        }
        now(after(q, word));
        return q.left;
    }

    int toss() {
        if (!q.goes || !may(q, 4)) {
            return -2;
        }
        now(after(q, 4));
        return q.left;
    }

    int still() {
        if (!q.goes) {
            return -2;
        }
        now(after(q, STILL));
        return q.winner;
    }

    private boolean canRun(int one, int other) {
        return q.goes && (one == -1 || isRule(one)) && (other == -1 || isRule(other));
    }

    int run(int one, int other) {
        if (!canRun(one, other)) {
            return -2;
        }
        now(byRules(q, one, other));
        return q.winner;
    }

    int would(int one, int other, int what) {
        if (!canRun(one, other) || !in(what, 0, 3)) {
            return -2;
        }
        Q s = byRules(q, one, other);
        return new int[] {s.winner, s.moves - q.moves, s.hat - q.hat, s.left}[what];
    }

    int side(int side, int what) {
        if (corner == null || !in(side, 0, 1) || !in(what, 0, 3)) {
            return -1;
        }
        return new int[] {q.purse[side], q.last[side], q.said[side], won[side]}[what];
    }

    int fill(int side, int n) {
        if (corner == null || !in(side, 0, 1) || !in(n, 0, 7)) {
            return -1;
        }
        int before = q.purse[side];
        if (q.goes) {
            now(with(q, side, n));
        } else {
            q = q.copy();
            q.purse[side] = n;
        }
        return before;
    }

    int have() {
        return q.goes ? best(q) : -2;
    }

    int move() {
        if (!q.goes) {
            return -2;
        }
        for (int deed = 0; deed < STILL; deed++) {
            if (may(q, deed) && best(after(q, deed)) == q.turn) {
                return deed;
            }
        }
        return -1;
    }

    int enough(int side) {
        if (!q.goes || !in(side, 0, 1)) {
            return -2;
        }
        for (int n = 0; n <= 7; n++) {
            if (best(with(q, side, n)) == side) {
                return n;
            }
        }
        return -1;
    }

    int hidden(int side, int m, int part) {
        if (!q.goes || !in(side, 0, 1) || !in(m, 0, 7) || !in(part, 0, 1)) {
            return -2;
        }
        int above = 0;
        for (int n = 0; n <= m; n++) {
            above += best(with(q, 1 - side, n)) == side ? 1 : 0;
        }
        int by = java.math.BigInteger.valueOf(above).gcd(java.math.BigInteger.valueOf(m + 1)).intValue();
        return part == 0 ? above / by : (m + 1) / by;
    }

    int fair(int what) {
        if (corner == null || !in(what, 0, 3)) {
            return -1;
        }
        int bits = 0;
        for (int tune = 0; tune < corner.verses.size(); tune++) {
            int verse = corner.verses.get(tune);
            int zeroFirst = best(started(verse, 0, q.purse[0], q.purse[1], 0));
            int oneFirst = best(started(verse, 1, q.purse[0], q.purse[1], 0));
            boolean fits = switch (what) {
                case 0 -> zeroFirst == 0 && oneFirst == 1;
                case 1 -> zeroFirst == 0 && oneFirst == 0;
                case 2 -> zeroFirst == 1 && oneFirst == 1;
                default -> zeroFirst == 1 && oneFirst == 0;
            };
            bits += fits ? 1 << tune : 0;
        }
        return bits;
    }

    int bribe(int side) {
        if (!q.goes || !in(side, 0, 1)) {
            return -200;
        }
        int least = -100;
        for (int more = 20; more >= -20; more--) {
            Q s = q.copy();
            s.verse = Math.max(1, q.verse + more);
            s.left = Math.min(200, Math.max(0, q.left + more));
            if (Math.abs(more) <= Math.abs(least) && best(looked(s)) == side) {
                least = more;
            }
        }
        return least;
    }

    int plays(int n, int h, int side) {
        if (!q.goes || !in(n, 0, 8) || !in(h, 0, 14) || !in(side, 0, 1)) {
            return -2;
        }
        return playsFrom(q, n, q.hat + h, side);
    }

    private int playsFrom(Q s, int n, int hat, int side) {
        if (!s.goes) {
            return s.hat == hat && s.winner == side ? 1 : 0;
        }
        int all = 0;
        for (int deed = 0; deed <= STILL && n > 0; deed++) {
            if (may(s, deed)) {
                all += playsFrom(after(s, deed), n - 1, hat, side);
            }
        }
        return all;
    }

    int waits(int beats, int worth) {
        if (beats == -1) {
            waiting = new ArrayList<>();
            return 0;
        }
        if (corner == null || !in(beats, 1, 999) || !in(worth, 0, 99) || waiting.size() == 6) {
            return -2;
        }
        waiting = new ArrayList<>(waiting);
        waiting.add(new int[] {beats, worth});
        return waiting.size();
    }

    private int leastSum;
    private List<Integer> bestOrder;

    private void orders(List<Integer> row, int gone, int sum) {
        if (row.size() == waiting.size()) {
            if (bestOrder == null || sum < leastSum) {
                leastSum = sum;
                bestOrder = new ArrayList<>(row);
            }
            return;
        }
        for (int i = 0; i < waiting.size(); i++) {
            if (!row.contains(i)) {
                int end = gone + waiting.get(i)[0];
                row.add(i);
                orders(row, end, sum + end * waiting.get(i)[1]);
                row.remove(row.size() - 1);
            }
        }
    }

    int order(int what) {
        if (!in(what, 0, 6)) {
            return -1;
        }
        bestOrder = null;
        orders(new ArrayList<>(), 0, 0);
        if (what == 0) {
            return leastSum;
        }
        return what > bestOrder.size() ? -2 : bestOrder.get(what - 1);
    }

    int seed(int n) {
        if (n < 0) {
            return -1;
        }
        int before = (int) x;
        x = n;
        return before;
    }

    private int draw() {
        x = (x * 1103515245 + 12345) % 2147483648L;
        return (int) (x / 65536);
    }

    int lots(int one, int other, int m, int p, int what) {
        boolean best = one == -1 && other == -1;
        if (corner == null || !best && !(isRule(one) && isRule(other)) || !in(m, 1, 50) || !in(p, 0, 7) || !in(what, 0, 2)) {
            return -1;
        }
        long before = x;
        int[] sums = new int[3];
        for (int i = 0; i < m; i++) {
            int tune = draw() % corner.verses.size();
            int first = draw() % 2;
            int zero = draw() % (p + 1);
            Q s = started(corner.verses.get(tune), first, zero, draw() % (p + 1), 0);
            if (best) {
                sums[best(s)]++;
            } else {
                s = byRules(s, one, other);
                sums[s.winner]++;
                sums[2] += s.hat;
            }
        }
        x = before;
        return sums[what];
    }

    int count(int what) {
        return switch (what) {
            case 0 -> corner == null ? 0 : corner.verses.size();
            case 1 -> corner == null ? 0 : corner.words.size();
            case 2 -> rules.size();
            case 3 -> q.goes ? q.left : 0;
            case 4 -> q.goes ? q.turn : -1;
            case 5 -> q.goes ? q.verse : 0;
            case 6 -> q.hat;
            case 7 -> q.goes ? q.moves : 0;
            case 8 -> allWon();
            case 9 -> waiting.size();
            case 10 -> (int) x;
            case 11 -> tape.length();
            default -> -1;
        };
    }

    int image(int k) {
        if (!in(k, 0, 3)) {
            return -1;
        }
        images[k] = new Object[] {corner, q.copy(), won.clone(), waiting, x};
        return allWon();
    }

    @SuppressWarnings("unchecked")
    int back(int k) {
        if (!in(k, 0, 3) || images[k] == null) {
            return -1;
        }
        corner = (Corner) images[k][0];
        q = ((Q) images[k][1]).copy();
        won = ((int[]) images[k][2]).clone();
        waiting = (List<int[]>) images[k][3];
        x = (Long) images[k][4];
        return allWon();
    }
}

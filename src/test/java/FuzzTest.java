import java.util.ArrayList;
import java.util.List;
import java.util.Random;

/** Runs of calls by chance (always the same ones), each answer held against Model's. */
public final class FuzzTest {
    private static final int RUNS = 800;
    private static final int CALLS = 160;

    private final Random random;
    private final List<String> told = new ArrayList<>();
    private LastWords x = new LastWords();
    private Model model = new Model();

    private FuzzTest(long seed) {
        random = new Random(seed);
    }

    public static void main(String[] args) {
        for (int run = 0; run < RUNS; run++) {
            new FuzzTest(run).runOnce(run);
        }
        Asker.finish("FuzzTest");
    }

    private void runOnce(int run) {
        for (int i = 0; i < CALLS; i++) {
            if (!step()) {
                System.out.println("run " + run + ": " + told);
                return;
            }
        }
    }

    private boolean same(String call, int got, int want) {
        told.add(call + " = " + got);
        Asker.due(call, got, want);
        return got == want;
    }

    private int below(int n) {
        return random.nextInt(n);
    }

    private boolean rarely(int oneOf) {
        return below(oneOf) == 0;
    }

    /** Mostly 0 to most, now and then just outside or far away. */
    private int number(int most) {
        if (rarely(25)) {
            int[] odd = {-1, -2, most + 1, most + 2, Integer.MAX_VALUE, Integer.MIN_VALUE};
            return odd[below(odd.length)];
        }
        return below(most + 1);
    }

    private int ruleNumber() {
        return rarely(4) ? -1 : number(3);
    }

    private boolean step() {
        int kind = below(100);
        if (kind < 2 || x.count(0) == 0 && rarely(6)) {
            return text(cornerText(), true);
        }
        if (kind < 6) {
            return text(ruleText(), false);
        }
        if (x.count(4) == -1 && kind < 50) {
            int tune = number(3);
            int first = number(1);
            return same("begin(" + tune + ", " + first + ")", x.begin(tune, first), model.begin(tune, first));
        }
        return kind < 45 ? act(below(9)) : kind < 80 ? ask(below(14)) : look(below(9));
    }

    private boolean act(int kind) {
        int a = number(3);
        int b = number(1);
        switch (kind) {
            case 0:
                return rarely(3) ? same("still()", x.still(), model.still()) : same("toss()", x.toss(), model.toss());
            case 1:
                int n = number(7);
                return same("fill(" + b + ", " + n + ")", x.fill(b, n), model.fill(b, n));
            case 2:
                int one = ruleNumber();
                int other = ruleNumber();
                return same("run(" + one + ", " + other + ")", x.run(one, other), model.run(one, other));
            case 3:
                return same("toss()", x.toss(), model.toss());
            default:
                return same("speak(" + a + ")", x.speak(a), model.speak(a));
        }
    }

    private boolean ask(int kind) {
        int side = number(1);
        int a;
        int b;
        switch (kind) {
            case 0:
            case 1:
                return same("have()", x.have(), model.have());
            case 2:
            case 3:
                return same("move()", x.move(), model.move());
            case 4:
                return same("enough(" + side + ")", x.enough(side), model.enough(side));
            case 5:
                a = number(7);
                b = number(1);
                return same("hidden(" + side + ", " + a + ", " + b + ")", x.hidden(side, a, b), model.hidden(side, a, b));
            case 6:
                a = number(3);
                return same("fair(" + a + ")", x.fair(a), model.fair(a));
            case 7:
                return same("bribe(" + side + ")", x.bribe(side), model.bribe(side));
            case 8:
            case 9:
                a = rarely(30) ? number(8) : number(5);
                b = rarely(10) ? number(14) : number(4);
                return same("plays(" + a + ", " + b + ", " + side + ")", x.plays(a, b, side), model.plays(a, b, side));
            case 10:
                return lots();
            default:
                a = ruleNumber();
                b = ruleNumber();
                int what = number(3);
                return same("would(" + a + ", " + b + ", " + what + ")", x.would(a, b, what), model.would(a, b, what));
        }
    }

    private boolean lots() {
        boolean best = rarely(3);
        int one = best ? -1 : ruleNumber();
        int other = best ? -1 : ruleNumber();
        int m = best ? number(6) : number(50);
        int p = number(7);
        int what = number(2);
        String call = "lots(" + one + ", " + other + ", " + m + ", " + p + ", " + what + ")";
        return same(call, x.lots(one, other, m, p, what), model.lots(one, other, m, p, what));
    }

    private boolean look(int kind) {
        int a;
        int b;
        switch (kind) {
            case 0:
                a = rarely(8) ? -1 : number(999);
                b = rarely(3) ? number(2) : number(99);
                if (rarely(3)) {
                    a = 1 + below(4);
                }
                return same("waits(" + a + ", " + b + ")", x.waits(a, b), model.waits(a, b));
            case 1:
                a = number(6);
                return same("order(" + a + ")", x.order(a), model.order(a));
            case 2:
                a = rarely(3) ? number(5) : random.nextInt();
                return same("seed(" + a + ")", x.seed(a), model.seed(a));
            case 3:
                a = number(3);
                return same("image(" + a + ")", x.image(a), model.image(a));
            case 4:
                a = number(3);
                return same("back(" + a + ")", x.back(a), model.back(a));
            case 5:
                return text(texture(), rarely(2));
            case 6:
                a = number(1);
                b = number(3);
                return same("side(" + a + ", " + b + ")", x.side(a, b), model.side(a, b));
            default:
                a = number(11);
                return same("count(" + a + ")", x.count(a), model.count(a));
        }
    }

    // ---- texts ----

    private boolean text(String text, boolean asCorner) {
        boolean good = true;
        if (rarely(8)) {
            int n = number(20);
            good = same("end(" + n + ")", x.end(n), model.end(n));
        }
        int before = x.count(11);
        for (int at = 0; at < text.length() && good; at += 20) {
            int[] n = new int[5];
            for (int i = 0; i < 5; i++) {
                n[i] = Asker.four(text, at + 4 * i);
            }
            good = same("feed(" + text + ")", x.feed(n[0], n[1], n[2], n[3], n[4]), model.feed(n[0], n[1], n[2], n[3], n[4]));
        }
        int end = before + text.length();
        good = good && same("end(" + end + ")", x.end(end), model.end(end));
        if (!good || rarely(20)) {
            return good;
        }
        return asCorner ? same("corner()", x.corner(), model.corner()) : same("rule()", x.rule(), model.rule());
    }

    private String blank() {
        return rarely(6) ? " ".repeat(below(3)) : "";
    }

    private String digits(int least, int most) {
        int n = rarely(150) ? most + 1 + below(20) : least + below(most - least + 1);
        return (rarely(40) ? "0".repeat(below(6)) : "") + n;
    }

    /** Long verses, long words and many pennies: what is left comes near to 200. */
    private String wideCornerText() {
        String[] verses = {"9 8", "5 8", "5 5", "8 8", "9 7", "5 4", "4 8", "6 8"};
        StringBuilder text = new StringBuilder("tune " + verses[below(8)] + ";tune " + verses[below(8)]);
        for (int i = below(3); i >= 0; i--) {
            text.append(";word ").append(5 + below(5));
        }
        text.append(";purse 0 ").append(3 + below(5)).append(";purse 1 ").append(3 + below(5));
        return text.append(rarely(2) ? "" : ";again " + below(4)).toString();
    }

    private String cornerText() {
        if (rarely(6)) {
            return wideCornerText();
        }
        List<String> clauses = new ArrayList<>();
        int tunes = rarely(60) ? 5 : 1 + below(4);
        int words = rarely(60) ? 5 : 1 + below(4);
        for (int i = 0; i < tunes; i++) {
            clauses.add("tune" + blank() + " " + digits(1, rarely(3) ? 9 : 3) + " " + digits(1, rarely(3) ? 8 : 4));
        }
        for (int i = 0; i < words; i++) {
            clauses.add("word" + blank() + digits(1, rarely(3) ? 9 : 4));
        }
        int purses = rarely(20) ? 10 : below(4);
        for (int i = 0; i < purses; i++) {
            clauses.add("purse" + blank() + digits(0, 1) + " " + digits(0, rarely(4) ? 7 : 3));
        }
        if (!rarely(3)) {
            clauses.add("again " + digits(0, rarely(3) ? 9 : 2));
        }
        java.util.Collections.shuffle(clauses, random);
        StringBuilder text = new StringBuilder();
        for (String clause : clauses) {
            text.append(text.length() == 0 ? "" : ";").append(blank()).append(clause).append(blank());
        }
        return spoiled(text.toString());
    }

    private String ruleText() {
        StringBuilder text = new StringBuilder();
        int clauses = rarely(40) ? 13 : 1 + below(5);
        for (int i = 0; i < clauses; i++) {
            String deed = rarely(3) ? "throw" : rarely(6) ? "still" : "say" + blank() + digits(0, 3);
            text.append(i == 0 ? "" : ";").append(blank()).append(deed);
            if (!rarely(3)) {
                text.append(blank()).append(" if ").append(test(rarely(9) ? 9 : 2));
            }
        }
        return spoiled(text.toString());
    }

    private String test(int deep) {
        StringBuilder text = new StringBuilder(fact(deep));
        for (int i = rarely(15) ? 9 : below(3); i > 0; i--) {
            text.append(rarely(2) ? " or " : " and ").append(fact(deep - 1));
        }
        return text.toString();
    }

    private String fact(int deep) {
        if (deep > 0 && !rarely(3)) {
            return rarely(2) ? "not " + fact(deep - 1) : "[" + blank() + test(deep - 2) + blank() + "]";
        }
        String[] signs = {"<", "<=", "=", ">=", ">"};
        return sum() + blank() + signs[below(5)] + blank() + sum();
    }

    private String sum() {
        String[] own = {"side", "left", "verse", "mine", "theirs", "last", "heard", "said", "moves"};
        StringBuilder text = new StringBuilder();
        for (int i = rarely(40) ? 12 : below(3); i >= 0; i--) {
            text.append(rarely(3) ? digits(0, rarely(4) ? 99999 : 9) : own[below(9)]).append(blank());
            if (i > 0) {
                text.append("+-*/".charAt(below(4)));
            }
        }
        return text.toString();
    }

    /** Now and then with a byte more, less or another; never too long for the tape. */
    private String spoiled(String text) {
        StringBuilder spoiled = new StringBuilder(text);
        if (rarely(4)) {
            String bytes = " ;0123456789[]<=>+-*/atunewordy" + (char) 0 + (char) 255 + (char) 200;
            int at = below(spoiled.length() + 1);
            int way = below(3);
            if (way > 0 && at < spoiled.length()) {
                spoiled.deleteCharAt(at);
            }
            if (way < 2) {
                spoiled.insert(at, bytes.charAt(below(bytes.length())));
            }
        }
        return spoiled.substring(0, Math.min(spoiled.length(), 400));
    }

    /** A row of parts of texts that seldom make sense. */
    private String texture() {
        String[] parts = {"tune", "word", "purse", "again", "say", "throw", "still", "if", "not", "[", "]", "<", "1", "left",
            ";", " ", "or", "and", "999999", "1 1", "+", "mine"};
        StringBuilder text = new StringBuilder(rarely(2) ? "still if " : "");
        for (int i = below(12); i > 0; i--) {
            text.append(parts[below(parts.length)]).append(rarely(3) ? "" : " ");
        }
        return text.toString();
    }
}

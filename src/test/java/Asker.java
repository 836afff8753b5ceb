/** A LastWords object whose answers are compared with the ones that are due. */
final class Asker {
    private static int asked = 0;
    private static int wrong = 0;

    final LastWords words = new LastWords();

    /** One with a corner. */
    static Asker at(String corner) {
        Asker a = new Asker();
        due("corner <" + corner + ">", Math.min(a.corner(corner), 1), 1);
        return a;
    }

    /** One with a corner, in which a quarrel with its first tune has begun. */
    static LastWords begun(String corner, int first) {
        Asker a = at(corner);
        a.words.begin(0, first);
        return a.words;
    }

    static void due(String what, int got, int want) {
        asked++;
        if (got != want) {
            wrong++;
            System.out.println(what + " answered " + got + ", due is " + want);
        }
    }

    static int wrongSoFar() {
        return wrong;
    }

    /** Ends the program, with 1 if an answer was wrong. */
    static void finish(String name) {
        System.out.println(name + ": " + asked + " answers, " + wrong + " wrong");
        if (wrong != 0 || asked == 0) {
            System.exit(1);
        }
    }

    /** Puts a text alone on the tape. */
    Asker tape(String text) {
        words.end(0);
        for (int at = 0; at < text.length(); at += 20) {
            words.feed(four(text, at), four(text, at + 4), four(text, at + 8), four(text, at + 12), four(text, at + 16));
        }
        words.end(text.length());
        return this;
    }

    static int four(String text, int at) {
        int number = 0;
        for (int i = at; i < at + 4; i++) {
            number = number << 8 | (i < text.length() ? text.charAt(i) : 0);
        }
        return number;
    }

    int corner(String text) {
        tape(text);
        return words.corner();
    }

    int rule(String text) {
        tape(text);
        return words.rule();
    }

    /** The answer of a text with a FAULT. */
    static int fault(int place, int kind) {
        return -2 - (1 + 8 * place + kind);
    }

    /** A new object reads a text as a corner, and finds this FAULT. */
    static void cornerFault(String text, int place, int kind) {
        Asker a = new Asker();
        due("corner <" + text + ">", a.corner(text), fault(place, kind));
        due("no corner of <" + text + ">", a.words.count(0), 0);
    }

    /** A new object reads a text as a rule, and finds this FAULT. */
    static void ruleFault(String text, int place, int kind) {
        Asker a = new Asker();
        due("rule <" + text + ">", a.rule(text), fault(place, kind));
        due("no rule of <" + text + ">", a.words.count(2), 0);
    }

    /**
     * One in which all is that can be: a quarrel goes on behind three moves, two were won, pennies are in the
     * hat, two wait, there are a rule, an image and bytes on the tape.
     */
    static Asker busy() {
        Asker a = at("tune 2 4;tune 1 1;word 2;word 3;again 1;purse 0 2;purse 1 3");
        a.rule("say 1;say 0");
        LastWords x = a.words;
        x.seed(77);
        x.waits(7, 7);
        x.waits(3, 9);
        x.begin(0, 1);
        x.still();
        x.begin(0, 0);
        x.still();
        x.image(2);
        x.begin(0, 1);
        x.toss();
        x.speak(1);
        x.speak(0);
        a.tape("abc");
        return a;
    }

    /** All that is told without asking for best play, in one row. */
    String seen() {
        StringBuilder row = new StringBuilder();
        for (int what = 0; what < 12; what++) {
            row.append(' ').append(words.count(what));
        }
        for (int i = 0; i < 8; i++) {
            row.append(' ').append(words.side(i / 4, i % 4));
        }
        for (int what = 0; what <= 6; what++) {
            row.append(' ').append(words.order(what));
        }
        return row.toString();
    }

    /** Behind a call: nothing happened, all is as it was seen before. */
    void dueSame(String what, String before) {
        String behind = seen();
        due(what + " changed <" + before + "> to <" + behind + ">:", before.equals(behind) ? 0 : 1, 0);
    }
}

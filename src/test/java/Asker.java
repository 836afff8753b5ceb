/** A LastWords object whose answers are compared with the ones that are due. */
final class Asker {
    private static int asked = 0;
    private static int wrong = 0;

    final LastWords words = new LastWords();

    /** One with a corner. */
    static Asker at(String corner) {
        Asker a = new Asker();
        due("corner <" + corner + ">", Math.min(a.corner(corner), 1), 1);
        return a;
    }

    static void due(String what, int got, int want) {
        asked++;
        if (got != want) {
            wrong++;
            System.out.println(what + " answered " + got + ", due is " + want);
        }
    }

    /** Ends the program, with 1 if an answer was wrong. */
    static void finish(String name) {
        System.out.println(name + ": " + asked + " answers, " + wrong + " wrong");
        if (wrong != 0 || asked == 0) {
            System.exit(1);
        }
    }

    /** Puts a text alone on the tape. */
    Asker tape(String text) {
        words.end(0);
        for (int at = 0; at < text.length(); at += 20) {
            words.feed(four(text, at), four(text, at + 4), four(text, at + 8), four(text, at + 12), four(text, at + 16));
        }
        words.end(text.length());
        return this;
    }

    static int four(String text, int at) {
        int number = 0;
        for (int i = at; i < at + 4; i++) {
            number = number << 8 | (i < text.length() ? text.charAt(i) : 0);
        }
        return number;
    }

    int corner(String text) {
        tape(text);
        return words.corner();
    }

    int rule(String text) {
        tape(text);
        return words.rule();
    }

    /** The answer of a text with a FAULT. */
    static int fault(int place, int kind) {
        return -2 - (1 + 8 * place + kind);
    }
}

/** Promises 1 to 5: a new object, the tape, corners and rules with all their faults. */
public final class TextsTest {
    private static final String GOOD = "tune 2 2;word 1";

    public static void main(String[] args) {
        newObject();
        feeding();
        ending();
        corners();
        cornerFaults();
        cornerReplaces();
        rules();
        ruleFaults();
        ruleDepthAndSize();
        Asker.finish("TextsTest");
    }

    private static void due(String what, int got, int want) {
        Asker.due(what, got, want);
    }

    private static String times(int n, String text) {
        return text.repeat(n);
    }

    private static void newObject() {
        LastWords x = new LastWords();
        int[] counts = {0, 0, 0, 0, -1, 0, 0, 0, 0, 0, 0, 0, -1};
        for (int what = 0; what < counts.length; what++) {
            due("new: count(" + what + ")", x.count(what), counts[what]);
        }
        due("new: count(-1)", x.count(-1), -1);
        due("new: begin", x.begin(0, 0), -1);
        due("new: speak", x.speak(0), -1);
        due("new: toss", x.toss(), -2);
        due("new: still", x.still(), -2);
        due("new: run", x.run(-1, -1), -2);
        due("new: fill", x.fill(0, 1), -1);
        due("new: fair", x.fair(0), -1);
        due("new: waits", x.waits(1, 1), -2);
        due("new: nobody waits", x.waits(-1, 0), 0);
        due("new: nobody waits, of any worth", x.waits(-1, -5), 0);
        due("new: nobody waits still", x.count(9), 0);
        due("new: order 0", x.order(0), 0);
        due("new: order 1", x.order(1), -2);
        for (int what = -1; what <= 4; what++) {
            due("new: side(0, " + what + ")", x.side(0, what), -1);
            due("new: side(1, " + what + ")", x.side(1, what), -1);
        }
        due("new: back", x.back(0), -1);
        due("NONE", LastWords.NONE, -1);
    }

    private static void feeding() {
        LastWords x = new LastWords();
        for (int i = 1; i <= 20; i++) {
            due("feed " + i, x.feed(0, 0, 0, 0, 0), 20 * i);
        }
        due("feed 21", x.feed(0, 0, 0, 0, 0), -1);
        due("full tape", x.count(11), 400);
        due("cut", x.end(381), 381);
        due("feed at 381", x.feed(0, 0, 0, 0, 0), -1);
        due("cut", x.end(380), 380);
        due("feed at 380", x.feed(0, 0, 0, 0, 0), 400);
        // The highest byte first, and each number behind the one before.
        x = new LastWords();
        x.feed(Asker.four("tune", 0), Asker.four(" 1 1", 0), Asker.four(";wor", 0), Asker.four("d 1;", 0), Asker.four("purs", 0));
        x.feed(Asker.four("e 1 ", 0), Asker.four("5   ", 0), 0, 0, 0);
        x.end(28);
        due("text of two feeds", x.corner(), 1);
        due("its purse", x.side(1, 0), 5);
        // A byte above 127 is a byte like another that can't stand there.
        x.feed(-1, 0, 0, 0, 0);
        x.end(1);
        due("byte 255", x.corner(), Asker.fault(0, 0));
    }

    private static void ending() {
        LastWords x = new LastWords();
        due("end(0) of nothing", x.end(0), 0);
        due("end(1) of nothing", x.end(1), -1);
        x.feed(0, 0, 0, 0, 0);
        due("end(21)", x.end(21), -1);
        due("end(-1)", x.end(-1), -1);
        due("stays", x.count(11), 20);
        due("end(20)", x.end(20), 20);
        due("end(7)", x.end(7), 7);
        due("end(8)", x.end(8), -1);
        due("tape", x.count(11), 7);
    }

    private static void corners() {
        Asker a = new Asker();
        due("plain", a.corner(GOOD), 1);
        due("tape empty", a.words.count(11), 0);
        due("tunes", a.words.count(0), 1);
        due("words", a.words.count(1), 1);
        due("blanks", a.corner("  word 9 ;tune1 1;  tune 009   00008 ;purse1 7;again0  "), 2);
        due("verse", a.words.begin(1, 0), 72);
        due("purse", a.words.side(1, 0), 7);
        due("last purse told", a.corner("purse 0 3;tune 1 1;word 1;purse 0 5"), 1);
        due("purse", a.words.side(0, 0), 5);
        due("no purse told", a.words.side(1, 0), 0);
        String four = "tune 1 1;tune 1 2;tune 1 3;tune 1 4;word 1;word 2;word 3;word 4;again 9";
        due("nine clauses", a.corner(four), 4);
        due("sixteen clauses", a.corner(four + times(7, ";purse 1 2")), 4);
        due("words", a.words.count(1), 4);
        due("400 bytes", a.corner(GOOD + times(385, " ")), 1);
        due("word first, tune last", a.corner("word 1;tune 1 1"), 1);
    }

    private static void cornerFaults() {
        Asker.cornerFault("", 0, 0);
        Asker.cornerFault("   ", 3, 0);
        Asker.cornerFault("tune", 4, 0);
        Asker.cornerFault("tune  ", 6, 0);
        Asker.cornerFault("tune 1", 6, 0);
        Asker.cornerFault("tune 1 1", 8, 0);
        Asker.cornerFault("tune 1 1  ", 10, 0);
        Asker.cornerFault("word 1", 6, 0);
        Asker.cornerFault("again 1", 7, 0);
        Asker.cornerFault("tune 0 1", 5, 1);
        Asker.cornerFault("tune 10 1", 5, 1);
        Asker.cornerFault("tune 11", 5, 1);
        Asker.cornerFault("tune 1 0", 7, 1);
        Asker.cornerFault("tune 1 9", 7, 1);
        Asker.cornerFault("tune 000001 1", 5, 1);
        Asker.cornerFault("tune 1 1 1", 9, 0);
        Asker.cornerFault("tune 1 1;", 9, 0);
        Asker.cornerFault("tune 1 1;;", 9, 0);
        Asker.cornerFault("; tune 1 1", 0, 0);
        Asker.cornerFault("tunes 1 1", 0, 0);
        Asker.cornerFault("tun 1 1", 0, 0);
        Asker.cornerFault("tunez 1 1", 0, 0);
        Asker.cornerFault("tunea 1 1", 0, 0);
        Asker.cornerFault("tune{1 1", 4, 0);
        Asker.cornerFault("tune`1 1", 4, 0);
        Asker.cornerFault(" Tune 1 1", 1, 0);
        Asker.cornerFault("tune x 1", 5, 0);
        Asker.cornerFault("tune -1 1", 5, 0);
        Asker.cornerFault("tune 1,1", 6, 0);
        Asker.cornerFault("tune\t1 1", 4, 0);
        Asker.cornerFault("123456", 0, 0);
        Asker.cornerFault("word 0", 5, 1);
        Asker.cornerFault("word 10", 5, 1);
        Asker.cornerFault("word 1 word 1", 7, 0);
        Asker.cornerFault("purse 2 1", 6, 1);
        Asker.cornerFault("purse 0 8", 8, 1);
        Asker.cornerFault("purse 0", 7, 0);
        Asker.cornerFault("again 10", 6, 1);
        Asker.cornerFault("again 1;again 1", 8, 4);
        Asker.cornerFault("again 0;again", 8, 4);
        Asker.cornerFault(times(4, "word 1;") + "word", 28, 4);
        Asker.cornerFault(times(4, "tune 1 1;") + " tune x", 37, 4);
        Asker.cornerFault(times(16, "purse 0 1;") + "purse", 160, 4);
        Asker.cornerFault(times(16, "purse 0 1;") + "purses", 160, 0);
        Asker.cornerFault(times(16, "purse 0 1;") + ";", 160, 0);
        Asker.cornerFault(times(16, "purse 0 1;"), 160, 0);
        Asker.cornerFault("tune 1 1;word 1" + (char) 0, 15, 0);
        Asker.cornerFault("say 1", 0, 0);
        Asker.cornerFault("tune 1 1" + times(392, " "), 400, 0);
    }

    private static void cornerReplaces() {
        Asker a = new Asker();
        a.corner("tune 3 3;tune 1 1;word 2;purse 0 2;purse 1 1");
        a.words.seed(77);
        a.words.begin(0, 0);
        a.words.toss();
        a.words.speak(0);
        a.words.still();
        a.words.begin(0, 1);
        a.words.speak(0);
        a.words.waits(3, 4);
        due("fault", a.corner("word 1;tune 9 9"), Asker.fault(14, 1));
        due("the faulty text is gone", a.words.count(11), 0);
        due("tunes stay", a.words.count(0), 2);
        due("left stays", a.words.count(3), 7);
        due("hat stays", a.words.count(6), 1);
        due("won stays", a.words.count(8), 1);
        due("waiting stays", a.words.count(9), 1);
        due("new corner", a.corner("word 1;tune 1 2;purse 1 7"), 1);
        int[] counts = {1, 1, 0, 0, -1, 0, 0, 0, 0, 0, 77, 0};
        for (int what = 0; what < counts.length; what++) {
            due("new corner: count(" + what + ")", a.words.count(what), counts[what]);
        }
        int[] sides = {0, -1, 0, 0, 7, -1, 0, 0};
        for (int i = 0; i < 8; i++) {
            due("new corner: side(" + i / 4 + ", " + i % 4 + ")", a.words.side(i / 4, i % 4), sides[i]);
        }
    }

    private static void rules() {
        Asker a = new Asker();
        due("first rule", a.rule("say 0"), 0);
        due("tape empty", a.words.count(11), 0);
        due("second", a.rule(" throw if left<verse and not[mine=0 or theirs>=2];still if 1<=2;say3"), 1);
        due("third", a.rule("say 1if side+1*2-3/0>moves or last=heard and said<=99999;throw"), 2);
        due("twelve clauses", a.rule(times(11, "still;") + "say 0"), 3);
        due("counted", a.words.count(2), 4);
        due("a fault", a.rule("say 5"), Asker.fault(4, 1));
        due("the faulty text is gone", a.words.count(11), 0);
        due("not counted", a.words.count(2), 4);
        due("fifth", a.rule("still"), 4);
        due("sixth", a.rule("still"), 5);
        due("seventh", a.rule("still"), -1);
        due("nothing happens", a.words.count(11), 5);
        due("seventh with a fault", a.rule("stil"), -1);
        due("six", a.words.count(2), 6);
        due("rules stay", a.corner(GOOD), 1);
        due("six", a.words.count(2), 6);
    }

    private static void ruleFaults() {
        Asker.ruleFault("", 0, 0);
        Asker.ruleFault("  ", 2, 0);
        Asker.ruleFault("say", 3, 0);
        Asker.ruleFault("say 4", 4, 1);
        Asker.ruleFault("say 000000", 4, 1);
        Asker.ruleFault("say x", 4, 0);
        Asker.ruleFault("say 1 2", 6, 0);
        Asker.ruleFault("say 1 if", 8, 0);
        Asker.ruleFault("say 1 iff 1=1", 6, 0);
        Asker.ruleFault("throw if", 8, 0);
        Asker.ruleFault("throws", 0, 0);
        Asker.ruleFault("throw 1", 6, 0);
        Asker.ruleFault("still 1", 6, 0);
        Asker.ruleFault("say 1;", 6, 0);
        Asker.ruleFault("still if x", 9, 0);
        Asker.ruleFault("still if or", 9, 0);
        Asker.ruleFault("still if not", 12, 0);
        Asker.ruleFault("still if 1", 10, 0);
        Asker.ruleFault("still if 1 and", 11, 0);
        Asker.ruleFault("still if 1<", 11, 0);
        Asker.ruleFault("still if 1<2<3", 12, 0);
        Asker.ruleFault("still if 1< =2", 12, 0);
        Asker.ruleFault("still if 1=<2", 11, 0);
        Asker.ruleFault("still if 1==2", 11, 0);
        Asker.ruleFault("still if 1!2", 10, 0);
        Asker.ruleFault("still if -1<2", 9, 0);
        Asker.ruleFault("still if 1+<2", 11, 0);
        Asker.ruleFault("still if 1+-2<2", 11, 0);
        Asker.ruleFault("still if 1 2<2", 11, 0);
        Asker.ruleFault("still if 1<2 2", 13, 0);
        Asker.ruleFault("still if 123456<2", 9, 1);
        Asker.ruleFault("still if [1<2", 13, 0);
        Asker.ruleFault("still if [1]<2", 11, 0);
        Asker.ruleFault("still if []", 10, 0);
        Asker.ruleFault("throw if left = 1]", 17, 0);
        Asker.ruleFault("still if 1<2 or", 15, 0);
        Asker.ruleFault("still if 1<2 andleft<1", 13, 0);
        Asker.ruleFault("still if 1<2 if 1<2", 13, 0);
        Asker.ruleFault("still if lefts<2", 9, 0);
        Asker.ruleFault("still if (1<2)", 9, 0);
        Asker.ruleFault(times(12, "still;") + "still if", 72, 4);
        Asker.ruleFault(times(12, "still;") + "stil", 72, 0);
        Asker.ruleFault(times(12, "still;"), 72, 0);
        Asker.ruleFault("tune 1 1", 0, 0);
    }

    private static void ruleDepthAndSize() {
        Asker a = new Asker();
        due("ten deep", a.rule("still if " + times(10, "[") + "1<2" + times(10, "]")), 0);
        due("ten nots", a.rule("still if " + times(10, "not ") + "1<2"), 1);
        due("five of each, twice", a.rule("still if " + times(5, "[not ") + "1<2" + times(5, "]") + " or " + times(5, "not[") + "1<2" + times(5, "]")), 2);
        Asker.ruleFault("still if " + times(11, "[") + "1", 19, 2);
        Asker.ruleFault("still if " + times(11, "not "), 49, 2);
        Asker.ruleFault("still if " + times(5, "[not ") + "not 1<2", 34, 2);
        Asker.ruleFault("still if " + times(5, "[not ") + "[1<2", 34, 2);
        // 20 facts of two values and a sign are 60.
        String sixty = "still if 1<2" + times(19, " or 1<2");
        due("sixty", a.rule(sixty), 3);
        Asker.ruleFault(sixty + " or x", sixty.length() + 4, 0);
        Asker.ruleFault(sixty + " or 1", sixty.length() + 4, 3);
        Asker.ruleFault(sixty + " or 123456", sixty.length() + 4, 1);
        Asker.ruleFault(sixty + " or left", sixty.length() + 4, 3);
        Asker.ruleFault(sixty + ";throw if 7", sixty.length() + 10, 3);
        Asker.ruleFault(sixty + ";say 7", sixty.length() + 5, 1);
        due("a word said is no value", a.rule(sixty + ";say 1;throw"), 4);
        // 60 values and then the sign.
        String values = "still if 1" + times(59, "+1");
        Asker.ruleFault(values + "<1", values.length(), 3);
        Asker.ruleFault(values + " >=1", values.length() + 1, 3);
        Asker.ruleFault(values + "+1", values.length() + 1, 3);
        Asker.ruleFault("still if 1" + times(58, "+1") + "<1", values.length() - 1, 3);
        due("58 and one", a.rule("still if 1" + times(57, "+1") + "<1"), 5);
    }
}

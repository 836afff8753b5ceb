/** Promises 6 to 13: quarrels spoken, run by rules, and what is told of the sides. */
public final class QuarrelTest {
    public static void main(String[] args) {
        beginning();
        speaking();
        throwing();
        beingStill();
        filling();
        running();
        ownWords();
        tests();
        Asker.finish("QuarrelTest");
    }

    private static void due(String what, int got, int want) {
        Asker.due(what, got, want);
    }

    private static void beginning() {
        LastWords x = Asker.at("tune 2 3;tune 1 1;word 2;purse 1 1").words;
        due("begin(2, 0)", x.begin(2, 0), -1);
        due("begin(-1, 0)", x.begin(-1, 0), -1);
        due("begin(0, 2)", x.begin(0, 2), -1);
        due("begin(0, -1)", x.begin(0, -1), -1);
        due("none goes on", x.count(4), -1);
        due("begin(0, 1)", x.begin(0, 1), 6);
        due("left", x.count(3), 6);
        due("turn", x.count(4), 1);
        due("verse", x.count(5), 6);
        x.speak(0);
        due("moves", x.count(7), 1);
        due("begin(0, 0) anew", x.begin(0, 0), 6);
        due("nobody has won the one before", x.count(8), 0);
        due("moves anew", x.count(7), 0);
        due("nothing said", x.side(1, 1), -1);
        due("nothing said", x.side(1, 2), 0);
        due("begin(3, 0) while one goes on", x.begin(3, 0), -1);
        due("it goes on", x.count(4), 0);
        // One beat is too short for the word, and side 0 has no penny: over as it begins.
        due("begin(1, 0)", x.begin(1, 0), 1);
        due("over", x.count(4), -1);
        due("no beats", x.count(3), 0);
        due("no verse", x.count(5), 0);
        due("won by the other one", x.side(1, 3), 1);
        due("all won", x.count(8), 1);
        due("begin(1, 1)", x.begin(1, 1), 1);
        due("side 1 can throw", x.count(4), 1);
    }

    private static void speaking() {
        LastWords x = Asker.at("tune 2 3;word 2;word 3;again 1;purse 0 1").words;
        due("speak, no quarrel", x.speak(0), -2);
        due("speak(2), no quarrel", x.speak(2), -1);
        x.begin(0, 0);
        due("speak(2)", x.speak(2), -1);
        due("speak(-1)", x.speak(-1), -1);
        due("speak(0)", x.speak(0), 4);
        due("turn", x.count(4), 1);
        due("side 1 speaks 1", x.speak(1), 1);
        due("0 again is too long", x.speak(0), -2);
        due("nothing happened", x.count(3), 1);
        due("toss", x.toss(), 7);
        due("turn goes on", x.count(4), 0);
        due("0 again takes 3", x.speak(0), 4);
        due("1 again takes 4", x.speak(1), 0);
        due("over", x.count(4), -1);
        due("won by side 1", x.side(1, 3), 1);
        due("won by side 0", x.side(0, 3), 0);
        due("last of 0", x.side(0, 1), 0);
        due("last of 1", x.side(1, 1), 1);
        due("said by 0", x.side(0, 2), 2);
        due("said by 1", x.side(1, 2), 2);
        due("purse of 0", x.side(0, 0), 0);
        due("hat", x.count(6), 1);
        due("speak, over", x.speak(0), -2);
        due("side(2, 0)", x.side(2, 0), -1);
        due("side(-1, 0)", x.side(-1, 0), -1);
        due("side(0, 4)", x.side(0, 4), -1);
        due("side(0, -1)", x.side(0, -1), -1);
        due("purses as they are", x.begin(0, 0), 6);
        due("still none", x.toss(), -2);
    }

    private static void throwing() {
        LastWords x = Asker.at("tune 5 8;tune 9 8;word 1;purse 0 7").words;
        due("toss, no quarrel", x.toss(), -2);
        x.begin(0, 0);
        for (int left = 80; left <= 200; left += 40) {
            due("toss", x.toss(), left);
        }
        due("above 200", x.toss(), -2);
        due("nothing happened", x.side(0, 0), 3);
        due("moves", x.count(7), 4);
        due("hat", x.count(6), 4);
        due("speak", x.speak(0), 199);
        due("side 1 has none", x.toss(), -2);
        x.begin(1, 0);
        due("72 more", x.toss(), 144);
        due("216", x.toss(), -2);
        // Throwing may end it too: two beats are still too few for the word, and no penny is left.
        x = Asker.at("tune 1 1;word 9;purse 1 1").words;
        x.begin(0, 1);
        due("toss", x.toss(), 2);
        due("over", x.count(4), -1);
        due("won by 0", x.side(0, 3), 1);
    }

    private static void beingStill() {
        LastWords x = Asker.at("tune 1 4;word 1;purse 0 2").words;
        due("still, no quarrel", x.still(), -2);
        x.begin(0, 0);
        due("nobody spoke", x.still(), 1);
        due("still, over", x.still(), -2);
        x.begin(0, 1);
        due("nobody spoke", x.still(), 0);
        x.begin(0, 1);
        x.speak(0);
        due("side 1 spoke", x.still(), 1);
        x.begin(0, 1);
        x.speak(0);
        x.toss();
        due("side 1 spoke, side 0 threw", x.still(), 1);
        x.begin(0, 0);
        x.toss();
        due("side 0 only threw", x.still(), 1);
        due("won by 1", x.side(1, 3), 4);
        due("won by 0", x.side(0, 3), 1);
        due("all", x.count(8), 5);
    }

    private static void filling() {
        LastWords x = Asker.at("tune 1 1;word 2;purse 0 1").words;
        due("fill(2, 1)", x.fill(2, 1), -1);
        due("fill(0, 8)", x.fill(0, 8), -1);
        due("fill(0, -1)", x.fill(0, -1), -1);
        due("fill(0, 7)", x.fill(0, 7), 1);
        due("fill(0, 3)", x.fill(0, 3), 7);
        x.begin(0, 0);
        due("fill(1, 4)", x.fill(1, 4), 0);
        due("goes on", x.count(4), 0);
        due("fill(1, 0)", x.fill(1, 0), 4);
        due("goes on", x.count(4), 0);
        due("fill(0, 0)", x.fill(0, 0), 3);
        due("over", x.count(4), -1);
        due("won by 1", x.side(1, 3), 1);
        due("fill behind", x.fill(0, 5), 0);
        due("won once", x.count(8), 1);
    }

    private static void running() {
        Asker a = Asker.at("tune 1 5;word 2;word 3;purse 1 1");
        LastWords x = a.words;
        due("rule 0", a.rule("say 3;say 0"), 0);
        due("rule 1", a.rule("throw if left<2;say 1;say 0"), 1);
        due("rule 2", a.rule("throw;say 0;throw"), 2);
        due("run, no quarrel", x.run(0, 1), -2);
        due("would, no quarrel", x.would(0, 1, 0), -2);
        x.begin(0, 0);
        due("run(3, 0)", x.run(3, 0), -2);
        due("run(0, -2)", x.run(0, -2), -2);
        due("would(0, 3, 0)", x.would(0, 3, 0), -2);
        due("would(0, 1, 4)", x.would(0, 1, 4), -2);
        due("would(0, 1, -1)", x.would(0, 1, -1), -2);
        // 5, side 0 says 0: 3, side 1 says 1: 0; side 0 has no penny.
        int[] wants = {1, 2, 0, 0};
        for (int what = 0; what < 4; what++) {
            due("would(0, 1, " + what + ")", x.would(0, 1, what), wants[what]);
        }
        // 5, side 0: 3, side 1 throws: 8, says 0: 6, 4, 2, 0 by side 0, side 1: 2 beats before, so by turns 0:4, 1:2, 0:0.
        int[] more = {0, 6, 1, 0};
        for (int what = 0; what < 4; what++) {
            due("would(0, 2, " + what + ")", x.would(0, 2, what), more[what]);
        }
        // A side without a rule is still, which is a move.
        int[] stills = {1, 1, 0, 5};
        for (int what = 0; what < 4; what++) {
            due("would(-1, 0, " + what + ")", x.would(-1, 0, what), stills[what]);
        }
        due("nothing changed", x.count(3), 5);
        due("nothing changed", x.count(7), 0);
        due("run(0, 2)", x.run(0, 2), 0);
        due("hat", x.count(6), 1);
        due("purse", x.side(1, 0), 0);
        due("said", x.side(0, 2), 3);
        due("won", x.side(0, 3), 1);
        due("run, over", x.run(0, 1), -2);
        x.begin(0, 1);
        due("run(-1, -1)", x.run(-1, -1), 0);
        // A clause that may not be done is passed over, and without one the side is still.
        due("rule 3", a.rule("say 2;throw;say 1 if left>5;still if left=5;say 0"), 3);
        x.begin(0, 0);
        due("still by its clause", x.would(3, 0, 3), 5);
        due("rule 4", a.rule("say 2;throw;say 1 if left>5"), 4);
        due("still without a clause", x.would(4, 0, 3), 5);
    }

    /** Whether a test holds as a quarrel begins: then word 1 (3 beats of 10) is said, else word 0 (2 beats). */
    private static void holds(String test, boolean want) {
        Asker a = Asker.at("tune 2 5;word 2;word 3;purse 0 2;purse 1 3");
        due("rule <" + test + ">", a.rule("say 1 if " + test + ";say 0"), 0);
        a.words.begin(0, 0);
        due("test <" + test + ">", a.words.would(0, -1, 3), want ? 7 : 8);
    }

    private static void ownWords() {
        holds("side=0 and left=10 and verse=10 and mine=2 and theirs=3 and last=9 and heard=9 and said=0 and moves=0", true);
        Asker a = Asker.at("tune 2 5;word 2;word 3;purse 0 2;purse 1 3");
        String facts = "side=1 and left=12 and verse=10 and mine=2 and theirs=2 and last=1 and heard=0 and said=1 and moves=4";
        due("rule", a.rule("say 1 if " + facts + ";say 0"), 0);
        due("rule", a.rule("say 1 if side=0;say 1 if not left=12;say 1 if mine=3 or theirs=3 or last=9 or heard=9;say 0"), 1);
        LastWords x = a.words;
        x.begin(0, 0);
        x.speak(0);
        x.speak(1);
        x.speak(1);
        x.begin(0, 0);
        x.speak(0);
        x.toss();
        x.speak(1);
        x.speak(0);
        // 10 - 2 + 10 - 3 - 2 = 13 with four moves: one beat too many for the facts.
        due("left", x.count(3), 13);
        due("facts do not hold", x.would(-1, 0, 3), 11);
        a = Asker.at("tune 2 5;word 2;word 3;word 1;purse 0 2;purse 1 3");
        due("rule", a.rule("say 1 if " + facts + ";say 0"), 0);
        x = a.words;
        x.begin(0, 0);
        x.speak(1);
        x.toss();
        x.speak(1);
        x.speak(0);
        due("left", x.count(3), 12);
        due("facts hold", x.would(-1, 0, 3), 9);
    }

    private static void tests() {
        holds("1=1", true);
        holds("1=2", false);
        holds("1<2 and 1<=1 and 2>1 and 2>=2", true);
        holds("2<2", false);
        holds("2>2", false);
        holds("3<=2", false);
        holds("2>=3", false);
        holds("2+3*4=14", true);
        holds("8-3-2=3", true);
        holds("8/4/2=1", true);
        holds("2*3/4=1", true);
        holds("8-2*3=2", true);
        holds("1+2-3+4=4", true);
        holds("2*3+4*5-6/3=24", true);
        holds("7/2=3", true);
        holds("5/0=0", true);
        holds("7-5/0*3=7", true);
        holds("1-2<0", true);
        holds("00012=12", true);
        holds("1=1 or 1=2 and 1=2", true);
        holds("[1=1 or 1=2] and 1=2", false);
        holds("1=2 and 1=2 or 1=1", true);
        holds("1=2 and [1=2 or 1=1]", false);
        holds("not 1=1 or 1=1", true);
        holds("not [1=1 or 1=1]", false);
        holds("not not 1=1", true);
        holds("not 1=2 and 1=1", true);
        holds("1=2 or 1=2 or 1=1", true);
        holds("1=1 and 1=2 or 1=1 and 1=1 or 1=2", true);
        String large = "99999*99999*99999*99999*2";
        holds(large + "<0", true);
        holds("99999*99999*99999*99999>0", true);
        holds(large + "-" + large + "/5*5=0-4", true);
    }
}

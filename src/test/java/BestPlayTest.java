/** Promises 14 to 20: best play, enough, hidden, fair, bribe, plays. */
public final class BestPlayTest {
    public static void main(String[] args) {
        without();
        having();
        withAgain();
        enough();
        hidden();
        fair();
        bribe();
        largestBribes();
        plays();
        nothingChanges();
        Asker.finish("BestPlayTest");
    }

    private static void due(String what, int got, int want) {
        Asker.due(what, got, want);
    }

    private static LastWords at(String corner) {
        return Asker.at(corner).words;
    }

    private static void without() {
        LastWords x = at("tune 1 4;word 1");
        due("have", x.have(), -2);
        due("move", x.move(), -2);
        due("enough", x.enough(0), -2);
        due("hidden", x.hidden(0, 1, 0), -2);
        due("bribe", x.bribe(0), -200);
        due("plays", x.plays(1, 0, 0), -2);
        x.begin(0, 0);
        due("enough(2)", x.enough(2), -2);
        due("enough(-1)", x.enough(-1), -2);
        due("hidden(2, 1, 0)", x.hidden(2, 1, 0), -2);
        due("hidden(0, 8, 0)", x.hidden(0, 8, 0), -2);
        due("hidden(0, -1, 0)", x.hidden(0, -1, 0), -2);
        due("hidden(0, 1, 2)", x.hidden(0, 1, 2), -2);
        due("hidden(0, 1, -1)", x.hidden(0, 1, -1), -2);
        due("fair(4)", x.fair(4), -1);
        due("fair(-1)", x.fair(-1), -1);
        due("bribe(2)", x.bribe(2), -200);
        due("bribe(-1)", x.bribe(-1), -200);
        due("plays(9, 0, 0)", x.plays(9, 0, 0), -2);
        due("plays(-1, 0, 0)", x.plays(-1, 0, 0), -2);
        due("plays(1, 15, 0)", x.plays(1, 15, 0), -2);
        due("plays(1, -1, 0)", x.plays(1, -1, 0), -2);
        due("plays(1, 0, 2)", x.plays(1, 0, 2), -2);
        due("plays(8, 14, 1)", x.plays(8, 14, 1), 0);
        x.still();
        due("have, over", x.have(), -2);
    }

    private static void having() {
        // Of 1 and 2 beats: lost with 3, 6, 9 .. left.
        LastWords x = at("tune 1 3;tune 1 4;tune 1 5;tune 9 8;word 1;word 2");
        int[] haves = {1, 0, 0, 1};
        int[] moves = {-1, 0, 1, -1};
        for (int tune = 0; tune < 4; tune++) {
            x.begin(tune, 0);
            due("have of tune " + tune, x.have(), haves[tune]);
            due("move of tune " + tune, x.move(), moves[tune]);
            x.begin(tune, 1);
            due("have of tune " + tune + ", side 1 first", x.have(), 1 - haves[tune]);
            due("move of tune " + tune + ", side 1 first", x.move(), moves[tune]);
        }
        // Of one beat each, an odd verse turns who has it; thrown at the right time.
        x = at("tune 1 3;tune 1 4;word 1;purse 0 1");
        x.begin(0, 0);
        due("odd, first has the penny", x.have(), 0);
        due("he speaks", x.move(), 0);
        x.begin(0, 1);
        due("odd, second has the penny", x.have(), 0);
        due("no move", x.move(), -1);
        x.speak(0);
        due("two left: a word comes before the penny", x.move(), 0);
        x.speak(0);
        due("one left", x.move(), -1);
        x.speak(0);
        due("none left", x.move(), 4);
        x.begin(1, 0);
        due("even, first has the penny", x.have(), 1);
        due("no move", x.move(), -1);
        // A verse is five words, so each penny turns who has it: side 0, with more pennies, does.
        x = at("tune 5 8;word 8;purse 0 7;purse 1 2");
        x.begin(0, 0);
        for (int i = 0; i < 3; i++) {
            x.toss();
        }
        due("160 left: to throw can wait", x.move(), 0);
        due("160 left, 40 more are 200", x.toss(), 200);
        due("200 left", x.have(), 0);
    }

    private static void withAgain() {
        // One word of 2 beats, 1 more said again: 8, 6, 4 by both, then 3 each: 4 left, 1 left.
        LastWords x = at("tune 1 8;word 2;again 1");
        x.begin(0, 0);
        due("have", x.have(), 0);
        x.speak(0);
        x.speak(0);
        due("left", x.count(3), 4);
        due("move", x.move(), 0);
        due("speak", x.speak(0), 1);
        due("won", x.side(0, 3), 1);
        // Behind word 0 the other one takes 3, and word 0 again is too long; behind word 1 there are two times word 0.
        x = at("tune 1 5;word 1;word 3;again 9");
        x.begin(0, 0);
        due("have", x.have(), 0);
        due("move", x.move(), 1);
    }

    private static void enough() {
        LastWords x = at("tune 1 3;tune 1 4;word 1");
        x.begin(0, 0);
        due("odd: first needs none", x.enough(0), 0);
        due("odd: second needs one", x.enough(1), 1);
        x.fill(1, 5);
        due("odd: first against 5", x.enough(0), 5);
        x.fill(1, 7);
        due("odd: first against 7", x.enough(0), 7);
        x.begin(1, 0);
        due("even: for the first no purse is", x.enough(0), -1);
        due("even: second needs none", x.enough(1), 0);
    }

    private static void hidden() {
        LastWords x = at("tune 1 3;tune 1 4;word 1");
        x.begin(0, 0);
        int[][] wants = {{1, 1}, {1, 2}, {1, 3}, {1, 4}, {1, 5}, {1, 6}, {1, 7}, {1, 8}};
        for (int m = 0; m <= 7; m++) {
            due("first, m " + m + ", above", x.hidden(0, m, 0), wants[m][0]);
            due("first, m " + m + ", below", x.hidden(0, m, 1), wants[m][1]);
        }
        due("second: none above", x.hidden(1, 5, 0), 0);
        due("second: one below", x.hidden(1, 5, 1), 1);
        x.fill(0, 3);
        due("with 3 against 0 to 7, above", x.hidden(0, 7, 0), 1);
        due("with 3 against 0 to 7, below", x.hidden(0, 7, 1), 2);
        x.begin(1, 1);
        due("always, above", x.hidden(0, 7, 0), 1);
        due("always, below", x.hidden(0, 7, 1), 1);
    }

    private static void fair() {
        LastWords x = at("tune 1 3;tune 1 4;tune 1 1;tune 2 4;word 1");
        int[] wants = {5, 0, 0, 10};
        for (int what = 0; what < 4; what++) {
            due("fair(" + what + ")", x.fair(what), wants[what]);
        }
        x.fill(0, 1);
        int[] zeros = {0, 5, 0, 10};
        for (int what = 0; what < 4; what++) {
            due("side 0 with a penny: fair(" + what + ")", x.fair(what), zeros[what]);
        }
        x.fill(0, 0);
        x.fill(1, 1);
        int[] ones = {0, 0, 5, 10};
        for (int what = 0; what < 4; what++) {
            due("side 1 with a penny: fair(" + what + ")", x.fair(what), ones[what]);
        }
    }

    private static void bribe() {
        LastWords x = at("tune 1 4;tune 1 1;word 1");
        x.begin(0, 0);
        due("one less", x.bribe(0), -1);
        due("none", x.bribe(1), 0);
        x.begin(1, 0);
        due("verse held to 1, none left", x.bribe(1), -1);
        // 9 beats the word: 40 left lie between 36 and 45, four words; 5 more or 5 less make it odd.
        x = at("tune 5 8;tune 5 7;word 9");
        x.begin(0, 0);
        due("5 more or 5 less", x.bribe(0), -5);
        x.begin(1, 0);
        due("35: one more makes four words", x.bribe(1), 1);
        due("35: three words", x.bribe(0), 0);
        // With even verses the parity of what is left never turns; but each beat of a bribe turns it.
        x = at("tune 2 4;tune 3 3;word 1;word 2;word 3;word 5;purse 0 7;purse 1 7;again 2");
        x.begin(0, 0);
        x.toss();
        due("there is none", x.bribe(0), -100);
        due("no need", x.bribe(1), 0);
    }

    private static void largestBribes() {
        LastWords x = at("tune 2 4;word 6;purse 1 7;again 8");
        x.begin(0, 0);
        due("20 more", x.bribe(0), 20);
        x = at("tune 8 3;word 2;word 5;purse 0 3;purse 1 4;again 1");
        x.begin(0, 1);
        due("20 less", x.bribe(0), -20);
    }

    private static void plays() {
        LastWords x = at("tune 1 2;word 1;word 2;purse 0 1");
        x.begin(0, 0);
        due("plays(0, 0, 0)", x.plays(0, 0, 0), 0);
        due("plays(0, 0, 1)", x.plays(0, 0, 1), 0);
        due("plays(1, 0, 0): say 1", x.plays(1, 0, 0), 1);
        due("plays(1, 0, 1): still", x.plays(1, 0, 1), 1);
        due("plays(1, 1, 0)", x.plays(1, 1, 0), 0);
        due("plays(1, 1, 1)", x.plays(1, 1, 1), 0);
        due("plays(2, 0, 0): say 1, or say 0 and still", x.plays(2, 0, 0), 2);
        due("plays(2, 0, 1)", x.plays(2, 0, 1), 1);
        due("plays(2, 1, 1): throw and still", x.plays(2, 1, 1), 1);
        due("plays(2, 1, 0)", x.plays(2, 1, 0), 0);
        // say 0, say 0, still (none left, but a penny).
        due("plays(3, 0, 1)", x.plays(3, 0, 1), 2);
        due("plays(3, 2, 1)", x.plays(3, 2, 1), 0);
        LastWords wide = at("tune 5 8;word 9;purse 0 7");
        wide.begin(0, 0);
        wide.toss();
        wide.toss();
        wide.toss();
        due("160 left: a fourth throw and still", wide.plays(2, 1, 1), 1);
        due("200 left then: no fifth one", wide.plays(8, 2, 1), wide.plays(8, 2, 0) + wide.plays(8, 2, 1));
        // What is in the hat already does not count.
        x.toss();
        due("plays(1, 0, 1) behind a throw", x.plays(1, 0, 1), 1);
        due("plays(1, 1, 1) behind a throw", x.plays(1, 1, 1), 0);
        x = at("tune 2 4;tune 3 3;word 1;word 2;word 3;word 5;purse 0 7;purse 1 7;again 2");
        x.begin(0, 0);
        x.toss();
        due("plays(8, 2, 0)", x.plays(8, 2, 0), 21528);
        due("plays(8, 0, 0)", x.plays(8, 0, 0), 2360);
    }

    private static void nothingChanges() {
        LastWords x = at("tune 1 7;word 1;word 2;purse 0 2;purse 1 1;again 1");
        x.begin(0, 1);
        x.speak(1);
        x.have();
        x.move();
        x.enough(0);
        x.hidden(1, 7, 0);
        x.fair(2);
        x.bribe(1);
        x.plays(8, 1, 0);
        x.lots(-1, -1, 50, 7, 0);
        int[] counts = {1, 2, 0, 5, 0, 7, 0, 1, 0, 0, 0, 0};
        for (int what = 0; what < counts.length; what++) {
            due("count(" + what + ")", x.count(what), counts[what]);
        }
        due("purse 0", x.side(0, 0), 2);
        due("purse 1", x.side(1, 0), 1);
        due("last 1", x.side(1, 1), 1);
    }
}

/** Boundaries of promises 14 to 20, and of the terms that tell of best play. */
final class QuestionBoundaries {
    private static final int LOWEST = Integer.MIN_VALUE;
    private static final int HIGHEST = Integer.MAX_VALUE;
    /** One beat a word: of odd verses each penny turns who has it, so the richer does, of equals the first speaker. */
    private static final String ODD = "tune 1 3;word 1";
    /** Of even ones pennies turn nothing: the second speaker has it. */
    private static final String EVEN = "tune 1 4;word 1";

    private QuestionBoundaries() {
    }

    static void hold(Sentences all) {
        having(all);
        counting(all);
        hurrying(all);
        playing(all);
    }

    private static void having(Sentences all) {
        all.hold("Terms", "(By what is asked nothing changes.", QuestionBoundaries::nothingChanges);
        all.hold("Terms", "whatever the other one does, it has WON in the end", QuestionBoundaries::bestPlayWins);
        all.hold("Promise 14", "which SIDE can (one always can)", QuestionBoundaries::oneAlwaysCan);
        all.hold("Promise 14", "-2 without one.", () -> withoutQuarrel("have", LastWords::have, -2));
        all.hold("Terms", "the first by which it can HAVE it (WORDS by numbers, then to THROW)", QuestionBoundaries::firstOfSeveral);
        all.hold("Promise 15", "a WORD, or 4 to THROW", QuestionBoundaries::onlyToThrow);
        all.hold("Promise 15", "NONE: there is none", QuestionBoundaries::noMove);
        all.hold("Promise 15", "-2 without a QUARREL that goes on.", () -> withoutQuarrel("move", LastWords::move, -2));
    }

    private static void counting(Sentences all) {
        all.hold("Terms", "the fewest PENNIES it would have to have now (0 to 7, the other one's as they are)", QuestionBoundaries::fewest);
        all.hold("Promise 16", "NONE: no purse is", QuestionBoundaries::noPurseIsEnough);
        all.hold("Promise 16", "-2 without these", QuestionBoundaries::noSideForEnough);
        all.hold("Promise 16", "(no QUARREL goes on)", () -> withoutQuarrel("enough", x -> x.enough(0), -2));
        all.hold("Terms", "if the other one's purse were 0 to m (0 to 7), each as likely", QuestionBoundaries::hiddenPurses);
        all.hold("Terms", "a fraction in lowest terms", QuestionBoundaries::lowestTerms);
        all.hold("Promise 17", "part 0: above, 1: below the line; -2 without these", QuestionBoundaries::notHidden);
        all.hold("Promise 17", "(no QUARREL goes on)", () -> withoutQuarrel("hidden", x -> x.hidden(0, 7, 0), -2));
        all.hold("Terms", "(for a QUARREL that would begin now, with purses as they are)", QuestionBoundaries::fairAsItWouldBegin);
        all.hold("Terms", "the second speaker both times (as bits)", QuestionBoundaries::fairBits);
        all.hold("Promise 18", "0: the first speaker, 1: SIDE 0, 2: SIDE 1, 3: the second speaker", QuestionBoundaries::fairOfPurses);
        all.hold("Promise 18", "NONE without these", QuestionBoundaries::noSuchFairness);
        all.hold("Promise 18", "or a CORNER.", QuestionBoundaries::fairWithoutCorner);
    }

    private static void hurrying(Sentences all) {
        all.hold("Terms", "by how many BEATS (-20 to 20) a VERSE would have to be longer", QuestionBoundaries::twentyBeats);
        all.hold("Terms", "(its BEATS held to 1 at least", QuestionBoundaries::verseHeldToOne);
        all.hold("Terms", "what is left of this one by as much more, held to 0", QuestionBoundaries::leftHeldToZero);
        all.hold("Terms", "held to 0 to 200)", QuestionBoundaries::leftHeldToTwoHundred);
        all.hold("Terms", "that of the least size, of two the one below 0.", QuestionBoundaries::leastBribe);
        all.hold("Promise 19", "-100: there is none", QuestionBoundaries::noBribe);
        all.hold("Promise 19", "-200 without these", QuestionBoundaries::noSideForBribe);
        all.hold("Promise 19", "(no QUARREL goes on)", () -> withoutQuarrel("bribe", x -> x.bribe(0), -200));
    }

    private static void playing(Sentences all) {
        all.hold("Terms", "PLAYS of n MOVES at most (0 to 8) from now on, to be STILL counted as one", QuestionBoundaries::movesAtMost);
        all.hold("Terms", "are over with just h more pennies in the HAT (0 to 14)", QuestionBoundaries::justSoMany);
        all.hold("Terms", "and a SIDE as who has WON.", QuestionBoundaries::playsOfSides);
        all.hold("Promise 20", "-2 without these", QuestionBoundaries::noPlays);
        all.hold("Promise 20", "(no QUARREL goes on)", () -> withoutQuarrel("plays", x -> x.plays(8, 0, 0), -2));
    }

    private interface Question {
        int of(LastWords x);
    }

    private static void due(String what, int got, int want) {
        Asker.due(what, got, want);
    }

    private static LastWords at(String corner) {
        return Asker.at(corner).words;
    }

    /** No corner, no quarrel yet, one that was ended by being still, one that was over as it began, one left by an image. */
    private static void withoutQuarrel(String name, Question asked, int answer) {
        due(name + ", no corner", asked.of(new LastWords()), answer);
        due(name + ", no quarrel yet", asked.of(at(ODD)), answer);
        LastWords x = Asker.begun(ODD, 0);
        x.still();
        due(name + ", over", asked.of(x), answer);
        due(name + ", over as it began", asked.of(Asker.begun("tune 1 1;word 2", 0)), answer);
        x = at(ODD);
        x.image(0);
        x.begin(0, 0);
        due(name + ", one that goes on", asked.of(x) == answer ? 1 : 0, 0);
        x.back(0);
        due(name + ", gone back to none", asked.of(x), answer);
    }

    // ---- have, move ----

    private static void nothingChanges() {
        Asker a = Asker.busy();
        String before = a.seen();
        a.words.have();
        a.words.move();
        for (int i = 0; i < 4; i++) {
            a.words.enough(i % 2);
            a.words.hidden(i % 2, 7, i / 2);
            a.words.fair(i);
            a.words.bribe(i % 2);
            a.words.plays(8, i, i % 2);
            a.words.would(0, 0, i);
            a.words.order(i);
            a.words.lots(-1, -1, 50, 7, i);
            a.words.lots(0, 0, 50, 7, i);
        }
        a.dueSame("asking", before);
        due("nor what is asked", a.words.have(), a.words.have());
        LastWords never = Asker.busy().words;
        due("as if never asked", a.words.plays(8, 2, 1), never.plays(8, 2, 1));
    }

    /** Who can have it wins by move() against every play of the other one, down to the end. */
    private static void dueWon(LastWords x, int side, int deep) {
        due("have", x.have(), side);
        if (x.count(4) == side) {
            int move = x.move();
            int answer = move == 4 ? x.toss() : x.speak(move);
            due("its move " + move, answer >= 0 ? 1 : 0, 1);
            dueWonBehind(x, side, deep);
            return;
        }
        due("no move for the other one", x.move(), -1);
        x.image(deep);
        for (int move = 0; move <= 5; move++) {
            int answer = move == 5 ? x.still() : move == 4 ? x.toss() : x.speak(move);
            if (answer >= 0) {
                dueWonBehind(x, side, deep + 1);
            }
            x.back(deep);
        }
    }

    private static void dueWonBehind(LastWords x, int side, int deep) {
        if (x.count(4) >= 0) {
            dueWon(x, side, deep);
        } else {
            due("won in the end", x.side(side, 3), 1);
        }
    }

    private static void bestPlayWins() {
        dueWon(Asker.begun("tune 1 4;word 1;word 2;again 1", 0), Asker.begun("tune 1 4;word 1;word 2;again 1", 0).have(), 0);
        dueWon(Asker.begun("tune 1 5;word 2;word 3;purse 0 1", 1), 0, 0);
        dueWon(Asker.begun("tune 1 3;word 1;word 3;purse 1 1", 0), Asker.begun("tune 1 3;word 1;word 3;purse 1 1", 0).have(), 0);
        String[] corners = {"tune 2 7;word 1;word 2;word 3;word 4;again 1", "tune 3 4;word 3;word 1;word 2;word 1;again 9;purse 0 1",
            "tune 2 8;word 2;word 2;word 5;word 1;again 3;purse 1 2"};
        for (String corner : corners) {
            for (int words = 0; words < 64; words++) {
                behindWords(corner, words / 16, words / 4 % 4, words % 4);
            }
        }
    }

    /** What each side said last counts: who has it, and by which move, behind each of three words. */
    private static void behindWords(String corner, int... words) {
        LastWords x = Asker.begun(corner, 0);
        Model model = Model.at(corner);
        model.begin(0, 0);
        for (int word : words) {
            due("speak(" + word + ")", x.speak(word), model.speak(word));
            due("have behind it", x.have(), model.have());
            due("move behind it", x.move(), model.move());
        }
        due("enough behind them", x.enough(0), model.enough(0));
    }

    private static void oneAlwaysCan() {
        String[] corners = {ODD, EVEN, "tune 9 8;word 9;word 8;word 7;word 6;again 9;purse 0 7;purse 1 7", "tune 1 1;word 9;purse 0 7",
            "tune 1 1;word 1;purse 0 7;purse 1 7"};
        for (String corner : corners) {
            for (int first = 0; first < 2; first++) {
                LastWords x = Asker.begun(corner, first);
                if (x.count(4) >= 0) {
                    int have = x.have();
                    due("one can", have == 0 || have == 1 ? 1 : 0, 1);
                    due("a move, if it is its turn", x.move() >= 0 ? first : 1 - first, have);
                    due("no more is needed, if it can", x.bribe(have), 0);
                    due("and more is, if it can't", x.bribe(1 - have) == 0 ? 1 : 0, 0);
                }
            }
        }
        due("odd: the first speaker", Asker.begun(ODD, 1).have(), 1);
        due("even: the second one", Asker.begun(EVEN, 1).have(), 0);
        // To throw his last pennies is all that he may do, and too little.
        due("stuck with pennies", Asker.begun("tune 1 1;word 9;purse 0 7", 0).have(), 1);
        due("8 beats and a word of 8", Asker.begun("tune 1 1;word 8;purse 0 7", 0).have(), 0);
    }

    private static void firstOfSeveral() {
        due("both words", Asker.begun("tune 1 2;word 2;word 2", 0).move(), 0);
        due("the second word alone", Asker.begun("tune 1 2;word 1;word 2", 0).move(), 1);
        due("the last of four alone", Asker.begun("tune 1 4;word 1;word 2;word 3;word 4;again 9", 1).move(), 3);
        // To speak wins, and so does to throw first.
        due("a word before a penny", Asker.begun("tune 1 2;word 2;purse 0 7", 0).move(), 0);
        LastWords x = Asker.begun("tune 1 2;word 2;purse 0 2", 0);
        x.toss();
        x.toss();
        due("thrown twice it is as good", x.have(), 0);
    }

    private static void onlyToThrow() {
        LastWords x = Asker.begun("tune 1 1;word 1;purse 1 1", 0);
        x.speak(0);
        due("none left", x.move(), 4);
        due("a word that loses, a penny that wins", Asker.begun("tune 1 2;word 1;word 4;purse 0 1", 0).move(), 4);
        due("8 beats needed, 7 pennies", Asker.begun("tune 1 1;word 8;purse 0 7", 0).move(), 4);
        x = Asker.begun("tune 1 1;word 1;purse 0 6;purse 1 7", 0);
        x.speak(0);
        due("the richer one, none left", x.move(), 4);
    }

    private static void noMove() {
        due("all lose", Asker.begun(EVEN, 0).move(), -1);
        due("pennies lose too", Asker.begun("tune 1 4;word 1;purse 0 7", 0).move(), -1);
        due("it may throw alone, and loses", Asker.begun("tune 1 1;word 9;purse 0 7", 0).move(), -1);
        due("the other one is richer", Asker.begun("tune 1 3;word 1;purse 0 6;purse 1 7", 0).move(), -1);
        due("it is as rich", Asker.begun("tune 1 3;word 1;purse 0 7;purse 1 7", 0).move(), 0);
    }

    // ---- enough, hidden, fair ----

    private static void fewest() {
        LastWords x = Asker.begun(ODD, 0);
        for (int theirs = 0; theirs <= 7; theirs++) {
            x.fill(1, theirs);
            due("odd: the first one against " + theirs, x.enough(0), theirs);
        }
        x.fill(1, 0);
        for (int theirs = 0; theirs <= 6; theirs++) {
            x.fill(0, theirs);
            due("odd: the second one against " + theirs, x.enough(1), theirs + 1);
            due("odd: what it has does not count", x.enough(0), 0);
        }
        x = Asker.begun("tune 1 1;word 1;purse 0 5;purse 1 1", 0);
        x.speak(0);
        due("side 1, whose turn it is, without a penny it would be over", x.enough(1), 6);
        x.fill(0, 0);
        due("one for the turn", x.enough(1), 1);
        due("one against one", x.enough(0), 1);
        due("8 beats needed, one there", Asker.begun("tune 1 1;word 8;purse 0 1", 0).enough(0), 7);
    }

    private static void noPurseIsEnough() {
        due("even: for the first one", Asker.begun(EVEN, 0).enough(0), -1);
        LastWords x = Asker.begun("tune 1 3;word 1;purse 0 7", 0);
        due("odd: the second one would need 8", x.enough(1), -1);
        due("9 beats needed", Asker.begun("tune 1 1;word 9;purse 0 1", 0).enough(0), -1);
    }

    private static void noSideForEnough() {
        LastWords x = Asker.begun(ODD, 0);
        for (int side : new int[] {-1, 2, LOWEST, HIGHEST}) {
            due("enough(" + side + ")", x.enough(side), -2);
        }
    }

    private static void dueHidden(LastWords x, int side, int m, int above, int below) {
        due("hidden(" + side + ", " + m + ", 0)", x.hidden(side, m, 0), above);
        due("hidden(" + side + ", " + m + ", 1)", x.hidden(side, m, 1), below);
    }

    private static void hiddenPurses() {
        LastWords x = Asker.begun(ODD, 0);
        dueHidden(x, 0, 0, 1, 1);
        dueHidden(x, 0, 7, 1, 8);
        x.fill(1, 7);
        dueHidden(x, 0, 7, 1, 8);
        dueHidden(x, 0, 0, 1, 1);
        dueHidden(x, 1, 7, 7, 8);
        // Without a penny it would be over: that counts too.
        x = Asker.begun("tune 1 1;word 1;purse 1 1", 0);
        x.speak(0);
        dueHidden(x, 0, 0, 1, 1);
        dueHidden(x, 0, 1, 1, 2);
        dueHidden(x, 0, 7, 1, 8);
        dueHidden(x, 1, 7, 1, 8);
    }

    private static void lowestTerms() {
        LastWords x = Asker.begun("tune 1 3;word 1;purse 0 3", 0);
        int[][] wants = {{1, 1}, {1, 1}, {1, 1}, {1, 1}, {4, 5}, {2, 3}, {4, 7}, {1, 2}};
        for (int m = 0; m <= 7; m++) {
            dueHidden(x, 0, m, wants[m][0], wants[m][1]);
        }
        // Side 1 without a penny never has it.
        dueHidden(x, 1, 7, 0, 1);
        dueHidden(x, 1, 0, 0, 1);
        x.fill(0, 5);
        dueHidden(x, 0, 7, 3, 4);
        x.fill(0, 1);
        dueHidden(x, 0, 7, 1, 4);
        dueHidden(x, 0, 5, 1, 3);
        x.fill(0, 7);
        dueHidden(x, 0, 7, 1, 1);
    }

    private static void notHidden() {
        LastWords x = Asker.begun(ODD, 0);
        for (int bad : new int[] {-1, LOWEST, HIGHEST}) {
            due("hidden(" + bad + ", 1, 0)", x.hidden(bad, 1, 0), -2);
            due("hidden(0, " + bad + ", 0)", x.hidden(0, bad, 0), -2);
            due("hidden(0, 1, " + bad + ")", x.hidden(0, 1, bad), -2);
        }
        due("hidden(2, 1, 0)", x.hidden(2, 1, 0), -2);
        due("hidden(0, 8, 0)", x.hidden(0, 8, 0), -2);
        due("hidden(0, 8, 1)", x.hidden(0, 8, 1), -2);
        due("hidden(0, 1, 2)", x.hidden(0, 1, 2), -2);
    }

    private static void dueFair(LastWords x, int first, int zero, int one, int second) {
        int[] wants = {first, zero, one, second};
        for (int what = 0; what < 4; what++) {
            due("fair(" + what + ")", x.fair(what), wants[what]);
        }
    }

    private static void fairAsItWouldBegin() {
        // Behind a word the other one takes what is left; said again it takes 9 more.
        LastWords x = at("tune 1 5;tune 1 3;word 1;word 3;again 9;purse 0 1");
        int[] before = {x.fair(0), x.fair(1), x.fair(2), x.fair(3)};
        due("each tune is of one kind", before[0] | before[1] | before[2] | before[3], 3);
        due("and of one alone", before[0] + before[1] + before[2] + before[3], 3);
        x.begin(0, 1);
        x.speak(0);
        dueFair(x, before[0], before[1], before[2], before[3]);
        x.still();
        dueFair(x, before[0], before[1], before[2], before[3]);
        x = Asker.begun("tune 1 3;word 1;purse 0 1", 0);
        dueFair(x, 0, 1, 0, 0);
        x.toss();
        dueFair(x, 1, 0, 0, 0);
        // One word of 2 beats, 1 more said again: 8, 6, 4, 1. What was said before does not count.
        x = Asker.begun("tune 1 8;word 2;again 1", 0);
        dueFair(x, 1, 0, 0, 0);
        x.speak(0);
        dueFair(x, 1, 0, 0, 0);
        // 5 beats: behind 3 the other one says 1, and his last beat is too little for 1 again.
        dueFair(at("tune 1 5;word 1;word 3;again 9"), 1, 0, 0, 0);
        dueFair(at("tune 1 2;word 1;again 5"), 0, 0, 0, 1);
        // Over as it begins: whoever should speak first has lost.
        dueFair(at("tune 1 1;word 2"), 0, 0, 0, 1);
    }

    private static void fairBits() {
        dueFair(at("tune 1 1;tune 1 3;tune 1 5;tune 1 7;word 1"), 15, 0, 0, 0);
        dueFair(at("tune 1 2;tune 1 4;tune 1 6;tune 1 8;word 1"), 0, 0, 0, 15);
        dueFair(at("tune 1 2;tune 1 4;tune 1 6;tune 1 7;word 1"), 8, 0, 0, 7);
        dueFair(at("tune 1 1;tune 1 4;tune 1 6;tune 1 8;word 1"), 1, 0, 0, 14);
    }

    private static void fairOfPurses() {
        LastWords x = at("tune 1 1;tune 1 2;tune 1 3;word 1;purse 0 7;purse 1 6");
        dueFair(x, 0, 5, 0, 2);
        x.fill(1, 7);
        dueFair(x, 5, 0, 0, 2);
        x.fill(0, 0);
        dueFair(x, 0, 0, 5, 2);
    }

    private static void noSuchFairness() {
        LastWords x = Asker.begun(ODD, 0);
        for (int what : new int[] {-1, 4, LOWEST, HIGHEST}) {
            due("fair(" + what + ")", x.fair(what), -1);
        }
    }

    private static void fairWithoutCorner() {
        for (int what = -1; what <= 4; what++) {
            due("fair(" + what + ")", new LastWords().fair(what), -1);
        }
    }

    // ---- bribe ----

    private static void dueBribe(String corner, int side, int want) {
        due("bribe(" + side + ") at <" + corner + ">", Asker.begun(corner, 0).bribe(side), want);
    }

    private static void twentyBeats() {
        dueBribe("tune 4 2;word 7;again 7;purse 1 7", 0, 20);
        dueBribe("tune 9 1;word 8;again 3;purse 0 2;purse 1 5", 0, 20);
        dueBribe("tune 4 8;word 2;word 5;again 6;purse 0 2;purse 1 3", 0, -20);
        dueBribe("tune 3 7;word 8;word 6;again 8;purse 0 3;purse 1 1", 1, -20);
        // These would need 21 more, or less.
        dueBribe("tune 9 1;word 7;again 8;purse 1 4", 0, -100);
        dueBribe("tune 1 7;word 7;again 8;purse 0 7;purse 1 1", 1, -100);
        dueBribe("tune 8 4;word 2;word 9;again 5;purse 0 6;purse 1 5", 1, -100);
        dueBribe("tune 7 3;word 6;again 8;purse 0 5", 1, -100);
    }

    private static void verseHeldToOne() {
        // A verse of 0 would make pennies worthless, one below 0 worse: side 1 would have it by less.
        dueBribe("tune 1 1;word 1;purse 0 2;purse 1 1", 1, 1);
        dueBribe("tune 1 3;word 2;word 8;purse 0 2", 1, 7);
        LastWords x = Asker.begun("tune 3 1;word 1;purse 1 2", 0);
        x.speak(0);
        due("verse of 3, 2 left", x.bribe(0), -100);
        // And one of 2 at least would be too much.
        dueBribe("tune 1 2;word 5;again 1;purse 0 2;purse 1 2", 0, 2);
        dueBribe("tune 1 1;word 1;purse 0 1;purse 1 2", 0, -100);
    }

    private static void leftHeldToZero() {
        // Of a verse of 4, two less than none would be left, and a penny would make 2.
        LastWords x = Asker.begun("tune 3 2;word 3;word 6;purse 0 1", 0);
        x.speak(0);
        x.speak(0);
        due("verse of 6, none left", x.bribe(1), 2);
        x = Asker.begun("tune 3 2;word 8;word 6;purse 1 2", 0);
        x.speak(1);
        due("verse of 6, none left, side 1's turn", x.bribe(0), -4);
        // None may be left, not just one at least.
        x = Asker.begun("tune 1 3;word 3;again 2;purse 1 2", 0);
        x.speak(0);
        due("verse of 3, none left", x.bribe(0), -2);
        dueBribe("tune 1 1;word 3;purse 0 2", 1, -1);
    }

    private static void leftHeldToTwoHundred() {
        LastWords x = Asker.begun("tune 8 5;word 5;word 7;purse 0 7;purse 1 7", 0);
        for (int i = 0; i < 4; i++) {
            x.toss();
        }
        due("200 left, words of 5 and 7", x.bribe(0), 8);
        x = Asker.begun("tune 9 7;word 2;word 1;purse 0 5;purse 1 6", 0);
        x.toss();
        x.toss();
        due("189 left, words of 2 and 1", x.bribe(0), 12);
        x = Asker.begun("tune 8 5;word 1;again 1;purse 0 6;purse 1 5", 0);
        for (int i = 0; i < 4; i++) {
            x.toss();
        }
        due("200 left are not too many", x.bribe(0), 0);
    }

    private static void leastBribe() {
        // 40 beats are four words of 9: 35 are three of them, and 45 are five.
        dueBribe("tune 5 8;word 9", 0, -5);
        // 35 are three of them: 1 more makes four, 9 less two.
        dueBribe("tune 5 7;word 9", 1, 1);
        dueBribe("tune 5 7;word 9", 0, 0);
        // 36 are four: 1 less makes three, 9 more five.
        dueBribe("tune 9 4;word 9", 0, -1);
        // 1 more and 1 less both turn it.
        dueBribe(EVEN, 0, -1);
    }

    private static void noBribe() {
        dueBribe("tune 9 1;word 7;again 8;purse 1 4", 0, -100);
        LastWords x = Asker.begun("tune 3 1;word 1;purse 1 2", 0);
        x.speak(0);
        due("there is none for 0", x.bribe(0), -100);
        due("none is needed for 1", x.bribe(1), 0);
    }

    private static void noSideForBribe() {
        LastWords x = Asker.begun(ODD, 0);
        for (int side : new int[] {-1, 2, LOWEST, HIGHEST}) {
            due("bribe(" + side + ")", x.bribe(side), -200);
        }
    }

    // ---- plays ----

    private static void duePlays(LastWords x, int n, int h, int byZero, int byOne) {
        due("plays(" + n + ", " + h + ", 0)", x.plays(n, h, 0), byZero);
        due("plays(" + n + ", " + h + ", 1)", x.plays(n, h, 1), byOne);
    }

    private static void movesAtMost() {
        // Still behind 0 to 7 words; or 8 words, and then it is over.
        LastWords x = Asker.begun("tune 1 8;word 1", 0);
        duePlays(x, 0, 0, 0, 0);
        duePlays(x, 1, 0, 0, 1);
        duePlays(x, 2, 0, 1, 1);
        duePlays(x, 3, 0, 1, 2);
        duePlays(x, 7, 0, 3, 4);
        duePlays(x, 8, 0, 4, 5);
        x.speak(0);
        duePlays(x, 8, 0, 4, 4);
        // A word that takes all is a play of one move.
        x = Asker.begun("tune 1 8;word 8;word 8;word 8;word 8", 1);
        duePlays(x, 0, 0, 0, 0);
        duePlays(x, 1, 0, 1, 4);
        duePlays(x, 8, 0, 1, 4);
        // What was counted for one corner does not count for the next.
        Asker a = Asker.at("tune 1 8;word 1");
        a.words.begin(0, 0);
        duePlays(a.words, 8, 0, 4, 5);
        a.corner("tune 1 8;word 2");
        a.words.begin(0, 0);
        duePlays(a.words, 8, 0, 2, 3);
        // A word said again takes more: 8, 6, 4, 1, and it is over.
        a.corner("tune 1 8;word 2;again 1");
        a.words.begin(0, 0);
        duePlays(a.words, 8, 0, 2, 2);
        a.words.speak(0);
        duePlays(a.words, 8, 0, 2, 1);
        duePlays(a.words, 2, 0, 2, 1);
        duePlays(a.words, 1, 0, 1, 0);
        playsOfModel();
    }

    /** Each play that is counted, against one by one. */
    private static void playsOfModel() {
        String[] corners = {"tune 1 7;word 1;word 2;again 1;purse 0 2;purse 1 1", "tune 1 6;word 3;word 2;word 2;word 1;again 2;purse 1 7",
            "tune 9 8;word 9;word 8;again 9;purse 0 7;purse 1 7", "tune 1 6;word 2;word 1;purse 1 7"};
        for (String corner : corners) {
            Asker a = Asker.at(corner);
            Model model = Model.at(corner);
            a.words.begin(0, 1);
            model.begin(0, 1);
            int word = a.words.count(1) - 1;
            for (int i = 0; i < 2; i++) {
                due("speak(" + word + ")", a.words.speak(word), model.speak(word));
            }
            for (int n = 0; n <= 8; n++) {
                for (int h = 0; h <= 8; h++) {
                    duePlays(a.words, n, h, model.plays(n, h, 0), model.plays(n, h, 1));
                }
            }
        }
    }

    private static void justSoMany() {
        // Pennies alone may be thrown: seven, and then it is over.
        LastWords x = Asker.begun("tune 1 1;word 9;purse 0 7", 0);
        for (int h = 0; h <= 14; h++) {
            duePlays(x, 8, h, 0, h <= 7 ? 1 : 0);
            duePlays(x, 6, h, 0, h <= 5 ? 1 : 0);
        }
        duePlays(x, 7, 7, 0, 1);
        duePlays(x, 7, 6, 0, 1);
        x.toss();
        x.toss();
        duePlays(x, 8, 0, 0, 1);
        duePlays(x, 8, 5, 0, 1);
        duePlays(x, 8, 6, 0, 0);
        duePlays(x, 5, 5, 0, 1);
        duePlays(x, 4, 5, 0, 0);
        // What the other one has does not count, if it is not his turn.
        x = Asker.begun("tune 1 1;word 1;purse 1 7", 0);
        duePlays(x, 1, 0, 0, 1);
        duePlays(x, 2, 1, 0, 0);
        // No penny that would leave more than 200: of three, one is thrown.
        x = Asker.begun("tune 9 8;word 9;purse 0 3", 0);
        duePlays(x, 2, 1, 0, 1);
        duePlays(x, 3, 2, 0, 0);
        LastWords near = Asker.begun("tune 5 8;word 9;purse 0 7", 0);
        duePlays(near, 5, 4, 0, 1);
        duePlays(near, 6, 5, 0, 0);
    }

    private static void playsOfSides() {
        // Behind a word that leaves too little for any other it is over, if the other one has no penny.
        LastWords x = Asker.begun("tune 1 5;word 3;word 4;purse 0 1", 0);
        duePlays(x, 1, 0, 2, 1);
        x = Asker.begun("tune 1 5;word 3;word 4;purse 1 1", 0);
        duePlays(x, 1, 0, 0, 1);
        duePlays(x, 2, 0, 2, 1);
        // 0 says either word; 1 throws, and is still; or, behind the longer one, says it too, and 2 beats are left.
        duePlays(x, 3, 1, 2, 1);
        x = Asker.begun("tune 1 5;word 3;word 4;purse 1 1", 1);
        duePlays(x, 1, 0, 1, 2);
        duePlays(x, 2, 1, 1, 0);
    }

    private static void noPlays() {
        LastWords x = Asker.begun(ODD, 0);
        for (int bad : new int[] {-1, LOWEST, HIGHEST}) {
            due("plays(" + bad + ", 0, 0)", x.plays(bad, 0, 0), -2);
            due("plays(1, " + bad + ", 0)", x.plays(1, bad, 0), -2);
            due("plays(1, 0, " + bad + ")", x.plays(1, 0, bad), -2);
        }
        due("plays(9, 0, 0)", x.plays(9, 0, 0), -2);
        due("plays(8, 0, 0)", x.plays(8, 0, 0) >= 0 ? 1 : 0, 1);
        due("plays(0, 15, 0)", x.plays(0, 15, 0), -2);
        due("plays(0, 14, 0)", x.plays(0, 14, 0), 0);
        due("plays(0, 0, 2)", x.plays(0, 0, 2), -2);
        due("plays(0, 0, 1)", x.plays(0, 0, 1), 0);
    }
}

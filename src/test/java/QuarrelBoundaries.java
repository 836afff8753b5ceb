/** Boundaries of promises 6 to 13, and of the terms that tell how a quarrel goes on and ends. */
final class QuarrelBoundaries {
    private static final int LOWEST = Integer.MIN_VALUE;
    private static final int HIGHEST = Integer.MAX_VALUE;

    private QuarrelBoundaries() {
    }

    static void hold(Sentences all) {
        moves(all);
        endings(all);
        byRules(all);
        beginning(all);
        moving(all);
        running(all);
        sides(all);
    }

    private static void moves(Sentences all) {
        String in = "Terms";
        all.hold(in, "BEATS left are one VERSE; nobody has spoken.", QuarrelBoundaries::freshQuarrel);
        all.hold(in, "it SPEAKS a WORD, if its BEATS", QuarrelBoundaries::justEnoughBeats);
        all.hold(in, "(and again more, if it is the WORD that this SIDE said last) are left", QuarrelBoundaries::justEnoughForAgain);
        all.hold(in, "it THROWS a penny, if it has one", QuarrelBoundaries::lastPenny);
        all.hold(in, "and the BEATS left would be 200 at most", QuarrelBoundaries::twoHundred);
        all.hold(in, "and its turn goes on", QuarrelBoundaries::turnGoesOn);
        all.hold(in, "or it is STILL: the QUARREL is over then.", QuarrelBoundaries::stillEnds);
    }

    private static void endings(Sentences all) {
        String in = "Terms";
        all.hold(in, "It is also over, if nothing but to be STILL may be done", QuarrelBoundaries::nothingElse);
        all.hold(in, "(looked at behind each MOVE, ", QuarrelBoundaries::overBehindMove);
        all.hold(in, "as it begins, ", QuarrelBoundaries::overAsItBegins);
        all.hold(in, "and when PENNIES are told anew)", QuarrelBoundaries::overWhenFilled);
        all.hold(in, "Whoever SPOKE last has WON", QuarrelBoundaries::lastSpeakerWins);
        all.hold(in, "if nobody did, the SIDE whose turn it is has lost, the other one has WON.", QuarrelBoundaries::nobodySpoke);
        all.hold(in, "Pennies stay thrown; a new QUARREL begins with the purses as they are.", QuarrelBoundaries::penniesStayThrown);
    }

    private static void byRules(Sentences all) {
        String in = "Terms";
        all.hold(in, "BY RULES (one for each SIDE; NONE: it is STILL)", QuarrelBoundaries::noRule);
        all.hold(in, "and that may be done (still always may)", QuarrelBoundaries::whatMayBeDone);
        all.hold(in, "none: it is STILL", QuarrelBoundaries::noClause);
        all.hold(in, "again and again, till it is over.", QuarrelBoundaries::longestRun);
    }

    private static void beginning(Sentences all) {
        String in = "Promise 6";
        all.hold(in, "(also when one goes on: that is over, and nobody has WON it)", QuarrelBoundaries::beginsAnew);
        all.hold(in, "BEATS left", QuarrelBoundaries::beatsOfBegin);
        all.hold(in, "NONE, and nothing happens, without these", QuarrelBoundaries::noTuneOrSide);
        all.hold(in, "(no CORNER)", QuarrelBoundaries::noCornerToBegin);
    }

    private static void moving(Sentences all) {
        all.hold("Promise 7", "BEATS left", QuarrelBoundaries::beatsOfSpeak);
        all.hold("Promise 7", "-2, and nothing happens: it may not", QuarrelBoundaries::mayNotSpeak);
        all.hold("Promise 7", "(no QUARREL goes on)", QuarrelBoundaries::noQuarrelToSpeakIn);
        all.hold("Promise 7", "NONE without that WORD.", QuarrelBoundaries::noWord);
        all.hold("Promise 8", "BEATS left", QuarrelBoundaries::beatsOfToss);
        all.hold("Promise 8", "-2, and nothing happens, if it may not", QuarrelBoundaries::mayNotThrow);
        all.hold("Promise 8", "(no QUARREL goes on)", QuarrelBoundaries::noQuarrelToThrowIn);
        all.hold("Promise 9", "who has WON", QuarrelBoundaries::winnerOfStill);
        all.hold("Promise 9", "-2, and nothing happens, if no QUARREL goes on.", QuarrelBoundaries::noQuarrelToBeStillIn);
    }

    private static void running(Sentences all) {
        all.hold("Promise 10", "BY RULES, till it is over: who has WON", QuarrelBoundaries::winnerOfRun);
        all.hold("Promise 10", "-2, and nothing happens, if no QUARREL goes on", QuarrelBoundaries::noQuarrelToRun);
        all.hold("Promise 10", "or without these.", QuarrelBoundaries::noSuchRules);
        all.hold("Promise 11", "1: MOVES more, 2: pennies thrown more, 3: BEATS left then.", QuarrelBoundaries::wouldBe);
        all.hold("Promise 11", "-2 as run (what 0 to 3).", QuarrelBoundaries::wouldNot);
    }

    private static void sides(Sentences all) {
        all.hold("Promise 12", "1: the WORD it said last (NONE)", QuarrelBoundaries::nothingSaid);
        all.hold("Promise 12", "2: how many it said in this QUARREL", QuarrelBoundaries::saidInThisOne);
        all.hold("Promise 12", "3: QUARRELS it has WON.", QuarrelBoundaries::wonBySides);
        all.hold("Promise 12", "NONE without these.", QuarrelBoundaries::noSide);
        all.hold("Promise 13", "PENNIES of a SIDE become n (0 to 7): what they were", QuarrelBoundaries::purseFilled);
        all.hold("Promise 13", "NONE, and nothing happens, without these", QuarrelBoundaries::noPurse);
        all.hold("Promise 13", "(no CORNER).", QuarrelBoundaries::noCornerToFill);
    }

    private static void due(String what, int got, int want) {
        Asker.due(what, got, want);
    }

    private static LastWords at(String corner) {
        return Asker.at(corner).words;
    }

    private static void dueOver(LastWords x, int winner) {
        due("no turn", x.count(4), -1);
        due("nothing may be said", x.speak(0), -2);
        due("won by " + winner, x.side(winner, 3), 1);
        due("not by the other one", x.side(1 - winner, 3), 0);
    }

    // ---- moves ----

    private static void freshQuarrel() {
        LastWords x = Asker.begun("tune 9 8;word 9;again 9;purse 0 1", 0);
        x.speak(0);
        x.speak(0);
        x.toss();
        due("beats left", x.begin(0, 0), 72);
        due("told", x.count(3), 72);
        due("no moves", x.count(7), 0);
        due("side 0 said nothing", x.side(0, 1), -1);
        due("side 1 said nothing", x.side(1, 1), -1);
        due("none said", x.side(0, 2), 0);
        due("so nothing is said again", x.speak(0), 63);
        due("nor by the other one", x.speak(0), 54);
    }

    private static void justEnoughBeats() {
        LastWords x = Asker.begun("tune 1 5;word 5;word 3;word 2;purse 0 1;purse 1 1", 0);
        due("5 of 5", x.speak(0), 0);
        x.begin(0, 0);
        due("3 of 5", x.speak(1), 2);
        due("3 of 2", x.speak(1), -2);
        due("5 of 2", x.speak(0), -2);
        due("2 of 2", x.speak(2), 0);
        due("2 of 0", x.speak(2), -2);
    }

    private static void justEnoughForAgain() {
        LastWords x = Asker.begun("tune 1 7;word 3;again 1;purse 0 2;purse 1 2", 0);
        due("first by 0", x.speak(0), 4);
        due("first by 1: what the other one said does not count", x.speak(0), 1);
        due("a penny does not count", x.toss(), 8);
        due("again by 0", x.speak(0), 4);
        due("again by 1, 4 of 4", x.speak(0), 0);
        x = Asker.begun("tune 1 6;word 3;again 1;purse 0 2;purse 1 2", 0);
        x.speak(0);
        x.speak(0);
        due("none left", x.toss(), 6);
        due("again by 0", x.speak(0), 2);
        due("2 of them", x.toss(), 8);
        due("again by 1", x.speak(0), 4);
        due("again by 0, 4 of 4", x.speak(0), 0);
        x = Asker.begun("tune 1 8;word 2;word 1;again 2;purse 0 2;purse 1 2", 0);
        due("0 by 0", x.speak(0), 6);
        due("1 by 1", x.speak(1), 5);
        due("1 by 0", x.speak(1), 4);
        due("1 again by 1", x.speak(1), 1);
        due("0 by 0 does not fit", x.speak(0), -2);
        due("1 again by 0 needs 3", x.speak(1), -2);
        due("toss", x.toss(), 9);
        due("0 by 0: it said 1 since", x.speak(0), 7);
    }

    private static void lastPenny() {
        LastWords x = Asker.begun("tune 1 1;word 1;purse 0 2", 0);
        due("one of two", x.toss(), 2);
        due("the last one", x.toss(), 3);
        due("none", x.toss(), -2);
        x.speak(0);
        due("the other one has none", x.toss(), -2);
        due("hat", x.count(6), 2);
    }

    private static void twoHundred() {
        LastWords x = Asker.begun("tune 9 8;word 8;word 7;word 1;purse 0 7;purse 1 7", 0);
        due("144", x.toss(), 144);
        due("216 would be too many", x.toss(), -2);
        x.speak(0);
        due("129 left", x.speak(1), 129);
        due("201 would be too many", x.toss(), -2);
        due("128 left", x.speak(2), 128);
        due("200 are just enough", x.toss(), 200);
        due("272 are not", x.toss(), -2);
    }

    private static void turnGoesOn() {
        LastWords x = Asker.begun("tune 1 4;word 1;purse 1 3", 1);
        x.toss();
        x.toss();
        due("side 1 throws", x.count(4), 1);
        x.speak(0);
        due("it speaks", x.count(4), 0);
        due("three moves", x.count(7), 3);
    }

    private static void stillEnds() {
        LastWords x = Asker.begun("tune 1 4;word 1;purse 1 3", 1);
        due("won by the other one", x.still(), 0);
        dueOver(x, 0);
        due("not once more", x.still(), -2);
    }

    // ---- endings ----

    private static void nothingElse() {
        LastWords x = Asker.begun("tune 1 4;word 3;word 2;purse 1 1", 0);
        x.speak(1);
        due("2 left, and a word of 2", x.count(4), 1);
        x.speak(1);
        dueOver(x, 1);
        x = Asker.begun("tune 1 4;word 3;word 2;purse 1 1", 0);
        x.speak(0);
        due("1 left, and a penny", x.count(4), 1);
        x = Asker.begun("tune 1 7;word 2;again 2", 0);
        x.speak(0);
        x.speak(0);
        // 3 are left, and the word takes 4 now.
        dueOver(x, 1);
    }

    private static void overBehindMove() {
        LastWords x = Asker.begun("tune 1 2;word 2", 0);
        due("spoken", x.speak(0), 0);
        dueOver(x, 0);
        x = Asker.begun("tune 1 1;word 9;purse 1 1", 1);
        due("thrown", x.toss(), 2);
        dueOver(x, 0);
        Asker a = Asker.at("tune 1 1;word 9;purse 1 2");
        a.rule("throw");
        a.words.begin(0, 1);
        due("two thrown by a rule, nothing behind", a.words.would(-1, 0, 1), 2);
        due("it was run", a.words.run(-1, 0), 0);
        dueOver(a.words, 0);
    }

    private static void overAsItBegins() {
        LastWords x = at("tune 1 1;tune 1 2;word 2;purse 1 1");
        due("begins", x.begin(0, 0), 1);
        dueOver(x, 1);
        due("the other one has a penny", x.begin(0, 1), 1);
        due("it goes on", x.count(4), 1);
        due("just enough beats", x.begin(1, 0), 2);
        due("it goes on", x.count(4), 0);
    }

    private static void overWhenFilled() {
        LastWords x = Asker.begun("tune 1 1;word 2;purse 0 3;purse 1 3", 0);
        due("the other one's purse", x.fill(1, 0), 3);
        due("it goes on", x.count(4), 0);
        due("one penny", x.fill(0, 1), 3);
        due("it goes on", x.count(4), 0);
        due("none", x.fill(0, 0), 1);
        dueOver(x, 1);
        due("filled when it is over", x.fill(0, 7), 0);
        due("it stays over", x.count(4), -1);
        due("it was won once", x.count(8), 1);
        x.fill(0, 0);
        due("nor by this", x.count(8), 1);
        // A word that fits is enough.
        x = Asker.begun("tune 1 2;word 2;purse 0 3", 0);
        x.fill(0, 0);
        due("it goes on without a penny", x.count(4), 0);
    }

    private static void lastSpeakerWins() {
        LastWords x = Asker.begun("tune 1 4;word 1;purse 0 1;purse 1 1", 0);
        x.speak(0);
        due("still behind it", x.still(), 0);
        x.begin(0, 0);
        x.speak(0);
        x.toss();
        due("thrown and still behind it", x.still(), 0);
        x.begin(0, 0);
        x.speak(0);
        x.speak(0);
        x.toss();
        due("spoken by 1", x.still(), 1);
    }

    private static void nobodySpoke() {
        for (int first = 0; first < 2; first++) {
            LastWords x = Asker.begun("tune 1 4;word 1;purse 0 1;purse 1 1", first);
            due("still at once", x.still(), 1 - first);
            x.begin(0, first);
            x.toss();
            due("still behind a penny", x.still(), 1 - first);
            x = Asker.begun("tune 1 1;word 9", first);
            dueOver(x, 1 - first);
        }
    }

    private static void penniesStayThrown() {
        LastWords x = Asker.begun("tune 1 4;word 1;purse 0 2;purse 1 1", 0);
        x.toss();
        x.speak(0);
        x.toss();
        x.still();
        due("hat", x.count(6), 2);
        x.begin(0, 0);
        due("hat of the next one", x.count(6), 2);
        due("purse 0", x.side(0, 0), 1);
        due("purse 1", x.side(1, 0), 0);
        due("no beats of it", x.count(3), 4);
        x.toss();
        due("one more", x.count(6), 3);
        due("none is left", x.toss(), -2);
    }

    // ---- by rules ----

    private static void noRule() {
        Asker a = Asker.at("tune 1 4;word 1;purse 0 1");
        a.rule("say 0");
        a.words.begin(0, 0);
        due("side 0 is still", a.words.would(-1, 0, 0), 1);
        due("at once", a.words.would(-1, 0, 1), 1);
        due("side 1 is still", a.words.would(0, -1, 0), 0);
        due("behind one word", a.words.would(0, -1, 1), 2);
        due("both", a.words.would(-1, -1, 0), 1);
        due("run", a.words.run(-1, -1), 1);
        due("counted", a.words.count(8), 1);
    }

    private static void whatMayBeDone() {
        Asker a = Asker.at("tune 1 4;word 3;word 4;purse 0 1");
        a.rule("say 2;say 1 if left>4;throw if mine=0;say 0 if left<=4;throw");
        a.rule("throw;say 1;say 0;throw");
        a.rule("still if left=4;say 0");
        a.words.begin(0, 0);
        due("0 says word 0, 1 is stuck", a.words.would(0, 0, 1), 1);
        due("3 are taken", a.words.would(0, 0, 3), 1);
        due("throws, says word 1, the other one says it too", a.words.would(1, 1, 1), 3);
        due("still though it may speak", a.words.would(2, 0, 1), 1);
        a.words.begin(0, 1);
        due("1 has no penny and says word 1, 0 throws, says word 1", a.words.would(1, 1, 1), 3);
        due("0 spoke last", a.words.would(1, 1, 0), 0);
    }

    private static void noClause() {
        Asker a = Asker.at("tune 1 4;word 3;purse 1 2");
        a.rule("say 1");
        a.rule("throw;say 0 if left<4");
        a.words.begin(0, 0);
        due("a word that is not told", a.words.would(0, 0, 1), 1);
        due("won by the other one", a.words.would(0, 0, 0), 1);
        due("no penny, no test that holds", a.words.would(1, 1, 3), 4);
    }

    private static void longestRun() {
        Asker a = Asker.at("tune 5 8;word 1;purse 0 7;purse 1 7");
        a.rule("throw;say 0");
        a.words.begin(0, 0);
        // 14 verses and the first one, a beat each, and 14 pennies.
        due("moves", a.words.would(0, 0, 1), 15 * 40 + 14);
        due("pennies", a.words.would(0, 0, 2), 14);
        due("beats left", a.words.would(0, 0, 3), 0);
        due("won", a.words.run(0, 0), 1);
        due("said by 0", a.words.side(0, 2), 300);
        due("said by 1", a.words.side(1, 2), 300);
        due("hat", a.words.count(6), 14);
    }

    // ---- begin ----

    private static void beginsAnew() {
        Asker a = Asker.busy();
        due("two were won", a.words.count(8), 2);
        due("begins while one goes on", a.words.begin(0, 0), 8);
        due("nobody has won that", a.words.count(8), 2);
        due("nor 0", a.words.side(0, 3), 1);
        due("nor 1", a.words.side(1, 3), 1);
        due("its turn", a.words.count(4), 0);
        due("no moves", a.words.count(7), 0);
        due("nothing said", a.words.side(1, 2), 0);
        due("the hat stays", a.words.count(6), 1);
        due("no penny for 0", a.words.fill(0, 0), 2);
        due("begins anew and is over at once", a.words.begin(1, 0), 1);
        due("that one alone was won", a.words.count(8), 3);
        due("by 1", a.words.side(1, 3), 2);
    }

    private static void beatsOfBegin() {
        LastWords x = at("tune 1 1;tune 9 8;word 1;word 2");
        due("least", x.begin(0, 0), 1);
        due("most", x.begin(1, 1), 72);
        due("also when it is over at once", at("tune 1 3;word 4").begin(0, 1), 3);
    }

    private static void refusedBegin(Asker a, int tune, int first) {
        String before = a.seen();
        due("begin(" + tune + ", " + first + ")", a.words.begin(tune, first), -1);
        a.dueSame("begin(" + tune + ", " + first + ")", before);
    }

    private static void noTuneOrSide() {
        for (int tune : new int[] {-1, 2, 3, 4, LOWEST, HIGHEST}) {
            refusedBegin(Asker.busy(), tune, 0);
        }
        for (int first : new int[] {-1, 2, LOWEST, HIGHEST}) {
            refusedBegin(Asker.busy(), 0, first);
        }
        Asker over = Asker.busy();
        over.words.still();
        refusedBegin(over, 2, 0);
        refusedBegin(over, 0, 2);
    }

    private static void noCornerToBegin() {
        for (int tune = -1; tune <= 4; tune++) {
            refusedBegin(new Asker(), tune, 0);
        }
        Asker a = new Asker();
        a.corner("tune 1 1");
        refusedBegin(a, 0, 0);
    }

    // ---- speak, toss, still ----

    private static void beatsOfSpeak() {
        LastWords x = Asker.begun("tune 1 5;word 2;word 3", 0);
        due("3 left", x.speak(0), 3);
        due("told", x.count(3), 3);
        due("none left, and it is over", x.speak(1), 0);
        due("2 left, and it is over", Asker.begun("tune 1 5;word 3", 1).speak(0), 2);
    }

    private static void refusedWord(Asker a, int word, int answer) {
        String before = a.seen();
        due("speak(" + word + ")", a.words.speak(word), answer);
        a.dueSame("speak(" + word + ")", before);
    }

    private static void mayNotSpeak() {
        Asker a = Asker.at("tune 1 5;word 2;word 4;word 6;again 2;purse 0 1;purse 1 1");
        a.words.begin(0, 0);
        refusedWord(a, 2, -2);
        due("speak(1)", a.words.speak(1), 1);
        refusedWord(a, 0, -2);
        refusedWord(a, 1, -2);
        a.words.toss();
        due("6 of 6", a.words.speak(2), 0);
        refusedWord(a, 0, -2);
        a.words.toss();
        refusedWord(a, 1, -2);
    }

    private static void noQuarrelToSpeakIn() {
        refusedWord(Asker.at("tune 1 5;word 2;word 4"), 0, -2);
        refusedWord(Asker.at("tune 1 5;word 2;word 4"), 1, -2);
        Asker over = Asker.busy();
        over.words.still();
        refusedWord(over, 0, -2);
        Asker stuck = Asker.at("tune 1 1;word 2");
        stuck.words.begin(0, 0);
        refusedWord(stuck, 0, -2);
    }

    private static void noWord() {
        for (int word : new int[] {-1, 2, 3, 4, LOWEST, HIGHEST}) {
            refusedWord(Asker.busy(), word, -1);
            refusedWord(Asker.at("tune 1 5;word 2;word 4"), word, -1);
        }
        refusedWord(new Asker(), 0, -1);
    }

    private static void beatsOfToss() {
        due("a verse more", Asker.begun("tune 2 3;word 1;purse 0 1", 0).toss(), 12);
        LastWords x = Asker.begun("tune 1 1;word 3;purse 0 1", 0);
        due("also when it is over then", x.toss(), 2);
        due("over", x.count(3), 0);
    }

    private static void refusedToss(Asker a) {
        String before = a.seen();
        due("toss()", a.words.toss(), -2);
        a.dueSame("toss()", before);
    }

    private static void mayNotThrow() {
        Asker a = Asker.busy();
        a.words.fill(1, 0);
        refusedToss(a);
        a = Asker.at("tune 9 8;word 1;purse 0 7");
        a.words.begin(0, 0);
        a.words.toss();
        refusedToss(a);
    }

    private static void noQuarrelToThrowIn() {
        refusedToss(new Asker());
        refusedToss(Asker.at("tune 1 1;word 1;purse 0 7;purse 1 7"));
        Asker over = Asker.busy();
        over.words.still();
        refusedToss(over);
    }

    private static void winnerOfStill() {
        LastWords x = Asker.begun("tune 1 5;word 1", 0);
        due("nobody spoke, 0 is still", x.still(), 1);
        x.begin(0, 1);
        due("nobody spoke, 1 is still", x.still(), 0);
        x.begin(0, 1);
        x.speak(0);
        due("1 spoke", x.still(), 1);
    }

    private static void refusedStill(Asker a) {
        String before = a.seen();
        due("still()", a.words.still(), -2);
        a.dueSame("still()", before);
    }

    private static void noQuarrelToBeStillIn() {
        refusedStill(new Asker());
        refusedStill(Asker.at("tune 1 1;word 1"));
        Asker over = Asker.busy();
        over.words.still();
        refusedStill(over);
        Asker stuck = Asker.at("tune 1 1;word 2");
        stuck.words.begin(0, 0);
        refusedStill(stuck);
    }

    // ---- run, would ----

    private static void winnerOfRun() {
        Asker a = Asker.busy();
        // 11 left: 1 says word 1 again (4), 0 says it too (3), 1 again (4), and 0, who has pennies, is still.
        due("run(0, 0)", a.words.run(0, 0), 1);
        due("over", a.words.count(4), -1);
        due("won by 0", a.words.side(0, 3), 1);
        due("won by 1", a.words.side(1, 3), 2);
        due("said by 0", a.words.side(0, 2), 2);
        due("said by 1", a.words.side(1, 2), 3);
        due("the hat stays", a.words.count(6), 1);
    }

    private static void refusedRun(Asker a, int one, int other) {
        String before = a.seen();
        due("run(" + one + ", " + other + ")", a.words.run(one, other), -2);
        a.dueSame("run(" + one + ", " + other + ")", before);
    }

    private static void noQuarrelToRun() {
        refusedRun(new Asker(), -1, -1);
        refusedRun(Asker.at("tune 1 1;word 1"), -1, -1);
        Asker over = Asker.busy();
        over.words.still();
        refusedRun(over, 0, 0);
        refusedRun(over, -1, 0);
    }

    private static void noSuchRules() {
        for (int rule : new int[] {-2, 1, 5, 6, LOWEST, HIGHEST}) {
            refusedRun(Asker.busy(), rule, 0);
            refusedRun(Asker.busy(), 0, rule);
            refusedRun(Asker.busy(), -1, rule);
            refusedRun(Asker.busy(), rule, -1);
        }
        Asker full = Asker.busy();
        for (int i = 1; i < 6; i++) {
            full.rule("say 0");
        }
        refusedRun(full, 6, 5);
        refusedRun(full, 5, 6);
        due("the last of six", full.words.run(5, 5) >= 0 ? 1 : 0, 1);
    }

    private static void wouldBe() {
        Asker a = Asker.busy();
        String before = a.seen();
        int[] both = {1, 4, 0, 0};
        int[] none = {0, 1, 0, 11};
        for (int what = 0; what < 4; what++) {
            due("would(0, 0, " + what + ")", a.words.would(0, 0, what), both[what]);
            due("would(0, -1, " + what + ")", a.words.would(0, -1, what), none[what]);
        }
        a.dueSame("would", before);
        a.rule("throw;still");
        due("the penny in the hat does not count", a.words.would(0, 1, 2), 2);
        due("two thrown and still", a.words.would(0, 1, 1), 3);
        due("two verses more", a.words.would(0, 1, 3), 27);
    }

    private static void refusedWould(Asker a, int one, int other, int what) {
        String before = a.seen();
        String call = "would(" + one + ", " + other + ", " + what + ")";
        due(call, a.words.would(one, other, what), -2);
        a.dueSame(call, before);
    }

    private static void wouldNot() {
        for (int what : new int[] {-1, 4, LOWEST, HIGHEST}) {
            refusedWould(Asker.busy(), 0, 0, what);
        }
        for (int rule : new int[] {-2, 1, 6, LOWEST, HIGHEST}) {
            refusedWould(Asker.busy(), rule, 0, 0);
            refusedWould(Asker.busy(), 0, rule, 3);
        }
        for (int what = 0; what < 4; what++) {
            refusedWould(new Asker(), -1, -1, what);
            refusedWould(Asker.at("tune 1 1;word 1"), -1, -1, what);
            Asker over = Asker.busy();
            over.words.still();
            refusedWould(over, 0, 0, what);
        }
    }

    // ---- side, fill ----

    private static void nothingSaid() {
        LastWords x = at("tune 1 5;word 1;word 2");
        due("no quarrel yet", x.side(0, 1), -1);
        x.begin(0, 0);
        due("0 as it begins", x.side(0, 1), -1);
        x.speak(0);
        due("word 0", x.side(0, 1), 0);
        due("1 has said nothing", x.side(1, 1), -1);
        x.speak(1);
        due("word 1", x.side(1, 1), 1);
        x.begin(0, 0);
        due("0 as the next one begins", x.side(0, 1), -1);
        due("1 as the next one begins", x.side(1, 1), -1);
    }

    private static void saidInThisOne() {
        LastWords x = at("tune 1 5;word 1;purse 0 1");
        due("no quarrel yet", x.side(0, 2), 0);
        x.begin(0, 0);
        x.toss();
        due("a penny is no word", x.side(0, 2), 0);
        x.speak(0);
        x.speak(0);
        x.speak(0);
        due("two", x.side(0, 2), 2);
        due("one", x.side(1, 2), 1);
        x.begin(0, 0);
        due("none of the next one", x.side(0, 2), 0);
    }

    private static void wonBySides() {
        LastWords x = at("tune 1 5;word 1");
        due("none by 0", x.side(0, 3), 0);
        due("none by 1", x.side(1, 3), 0);
        x.begin(0, 0);
        due("one that goes on is not won", x.side(1, 3), 0);
        x.still();
        x.begin(0, 0);
        x.still();
        due("none by 0", x.side(0, 3), 0);
        due("two by 1", x.side(1, 3), 2);
    }

    private static void noSide() {
        LastWords x = Asker.busy().words;
        for (int what = 0; what < 4; what++) {
            for (int side : new int[] {-1, 2, LOWEST, HIGHEST}) {
                due("side(" + side + ", " + what + ")", x.side(side, what), -1);
            }
        }
        for (int what : new int[] {-1, 4, LOWEST, HIGHEST}) {
            due("side(0, " + what + ")", x.side(0, what), -1);
            due("side(1, " + what + ")", x.side(1, what), -1);
        }
        LastWords none = new LastWords();
        for (int what = -1; what <= 4; what++) {
            due("no corner: side(0, " + what + ")", none.side(0, what), -1);
            due("no corner: side(1, " + what + ")", none.side(1, what), -1);
        }
    }

    private static void purseFilled() {
        LastWords x = at("tune 1 5;word 1;purse 0 3;purse 1 4");
        due("to 0", x.fill(0, 0), 3);
        due("it is 0", x.side(0, 0), 0);
        due("to 7", x.fill(0, 7), 0);
        due("it is 7", x.side(0, 0), 7);
        due("the other one's stays", x.side(1, 0), 4);
        due("as it is", x.fill(1, 4), 4);
        due("it is 4", x.side(1, 0), 4);
        x.begin(0, 0);
        due("while one goes on", x.fill(0, 1), 7);
        due("no move", x.count(7), 0);
        due("one is thrown", x.toss(), 10);
        due("and no more", x.toss(), -2);
    }

    private static void refusedFill(Asker a, int side, int n) {
        String before = a.seen();
        due("fill(" + side + ", " + n + ")", a.words.fill(side, n), -1);
        a.dueSame("fill(" + side + ", " + n + ")", before);
    }

    private static void noPurse() {
        for (int n : new int[] {-1, 8, LOWEST, HIGHEST}) {
            refusedFill(Asker.busy(), 0, n);
            refusedFill(Asker.busy(), 1, n);
        }
        for (int side : new int[] {-1, 2, LOWEST, HIGHEST}) {
            refusedFill(Asker.busy(), side, 0);
            refusedFill(Asker.busy(), side, 7);
        }
    }

    private static void noCornerToFill() {
        refusedFill(new Asker(), 0, 0);
        refusedFill(new Asker(), 1, 7);
    }
}

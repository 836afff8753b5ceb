/** Boundaries of promises 1 to 5, and of the terms that tell of corners and rules. */
final class TextBoundaries {
    private static final String GOOD = "tune 2 2;word 1";

    private TextBoundaries() {
    }

    static void hold(Sentences all) {
        use(all);
        tape(all);
        tellings(all);
        corners(all);
        rules(all);
        values(all);
        faults(all);
    }

    private static void use(Sentences all) {
        all.hold("What it is", "An object is used for at most 512 calls after it has been made", TextBoundaries::lastOfAllCalls);
        all.hold("Terms", "`NONE = -1`: None.", () -> due("NONE", LastWords.NONE, -1));
        all.hold("Promise 1", "No CORNER, no RULES.", TextBoundaries::nothingTold);
    }

    private static void tape(Sentences all) {
        all.hold("Promise 2", "Twenty bytes come behind the TAPE", TextBoundaries::bytesComeBehind);
        all.hold("Promise 2", "of each number the highest first", TextBoundaries::highestByteFirst);
        all.hold("Promise 2", "how many it has", TextBoundaries::tapeGrows);
        all.hold("Promise 2", "NONE, and none comes, if it would have more than 400.", TextBoundaries::fullTape);
        all.hold("Promise 3", "The TAPE has its first n bytes alone: n", TextBoundaries::firstBytesAlone);
        all.hold("Promise 3", "NONE, and nothing happens, if it has not so many", TextBoundaries::cutTooLong);
        all.hold("Promise 3", "or n is below 0.", TextBoundaries::cutBelowZero);
    }

    private static void tellings(Sentences all) {
        all.hold("Promise 4", "The TAPE, which is empty then", TextBoundaries::cornerEmptiesTape);
        all.hold("Promise 4", "is the CORNER in place of the one there was", TextBoundaries::cornerTakesPlace);
        all.hold("Promise 4", "(no QUARREL, none WON, an empty HAT, nobody waits; x stays)", TextBoundaries::cornerBeginsAnew);
        all.hold("Promise 4", "how many TUNES", TextBoundaries::tunesTold);
        all.hold("Promise 4", "-2 - its FAULT, and all stays.", TextBoundaries::faultyCornerChangesNothing);
        all.hold("Promise 5", "The TAPE, which is empty then", TextBoundaries::ruleEmptiesTape);
        all.hold("Promise 5", "is a RULE: its number", TextBoundaries::rulesAreNumbered);
        all.hold("Promise 5", "-2 - its FAULT", TextBoundaries::faultyRuleIsNone);
        all.hold("Promise 5", "NONE, and nothing happens: there are 6.", TextBoundaries::sixRules);
    }

    private static void corners(Sentences all) {
        String in = "Terms";
        all.hold(in, "A CORNER is a text of at most 400 bytes", TextBoundaries::longestCorner);
        all.hold(in, "CLAUSE { ; CLAUSE }, 16 at most", TextBoundaries::sixteenClauses);
        all.hold(in, "BARS 1 to 9 of a VERSE", TextBoundaries::bars);
        all.hold(in, "BEATS 1 to 8 of a BAR", TextBoundaries::beatsOfBar);
        all.hold(in, "word NUMBER (BEATS 1 to 9)", TextBoundaries::beatsOfWord);
        all.hold(in, "(a SIDE, PENNIES 0 to 7; 0 without; of one the last told)", TextBoundaries::purses);
        all.hold(in, "again NUMBER (0 to 9; once at most, 0 without)", TextBoundaries::again);
        all.hold(in, "TUNES 0 to 3, WORDS 0 to 3, in the order told", TextBoundaries::fourTunesAndWords);
        all.hold(in, "one of each at least", TextBoundaries::oneOfEach);
        all.hold(in, "SIDES 0 and 1", TextBoundaries::sidesOfPurses);
        all.hold(in, "A VERSE of a TUNE has its BARS times BEATS.", TextBoundaries::verses);
    }

    private static void rules(Sentences all) {
        String in = "Terms";
        all.hold(in, "RULES 0 to 5: texts likewise, 12 CLAUSES at most", TextBoundaries::twelveClauses);
        all.hold(in, "(a WORD, 0 to 3, told or not)", TextBoundaries::wordsOfRules);
        all.hold(in, "Blanks (32) stand between as one likes.", TextBoundaries::blanks);
        all.hold(in, "[ and not lie within one another 10 deep at most", TextBoundaries::tenDeep);
        all.hold(in, "at most 60 VALUES and FACTS made of a SIGN, together.", TextBoundaries::sixtyTogether);
    }

    private static void values(Sentences all) {
        String in = "Terms";
        all.hold(in, "TEST: PART { or PART }. PART: FACT { and FACT }.", TextBoundaries::partsAndFacts);
        all.hold(in, "SIGN one of < <= = >= >", TextBoundaries::signs);
        all.hold(in, "NUMBER (1 to 5 digits, as far as digits go on)", TextBoundaries::digits);
        all.hold(in, "OWN WORDS (small letters, as far as these go on)", TextBoundaries::letters);
        all.hold(in, "mine, theirs (PENNIES)", TextBoundaries::pennies);
        all.hold(in, "last (the WORD he said last; 9 none yet)", TextBoundaries::lastWord);
        all.hold(in, "heard (the other one's; 9 likewise)", TextBoundaries::heardWord);
        all.hold(in, "said (how many WORDS he said in this QUARREL)", TextBoundaries::saidWords);
        all.hold(in, "moves (how many MOVES there were in it, of both)", TextBoundaries::movesOfBoth);
        all.hold(in, "/ is towards 0", TextBoundaries::towardsZero);
        all.hold(in, "0 by 0", TextBoundaries::byZero);
        all.hold(in, "all goes round in 64 bits", TextBoundaries::goesRound);
    }

    private static void faults(Sentences all) {
        String in = "Terms";
        all.hold(in, "FAULTS, the first along the text, 1 + 8 * its place", TextBoundaries::firstFault);
        all.hold(in, "0 a byte or OWN WORD that can't stand there", TextBoundaries::misplaced);
        all.hold(in, "or the end (behind the last byte; also without a tune or a word)", TextBoundaries::faultAtEnd);
        all.hold(in, "1 a NUMBER of more digits, or not as told", TextBoundaries::badNumbers);
        all.hold(in, "2 too deep (at the sign that opens, or the word not)", TextBoundaries::tooDeep);
        all.hold(in, "3 one VALUE or FACT too many (at its first byte; of a FACT at its SIGN)", TextBoundaries::oneTooMany);
        all.hold(in, "4 one CLAUSE too many", TextBoundaries::oneClauseTooMany);
        all.hold(in, "a fifth tune or word, a second again (at its first byte)", TextBoundaries::fifthAndSecond);
        all.hold(in, "Of one place the least.", TextBoundaries::leastOfOnePlace);
    }

    private static void due(String what, int got, int want) {
        Asker.due(what, got, want);
    }

    // ---- a new object ----

    private static void lastOfAllCalls() {
        LastWords x = new LastWords();
        for (int call = 1; call <= 512; call++) {
            due("call " + call, x.seed(call), call - 1);
        }
    }

    private static void nothingTold() {
        LastWords x = new LastWords();
        due("no tunes", x.count(0), 0);
        due("no words", x.count(1), 0);
        due("no rules", x.count(2), 0);
        due("no quarrel can begin", x.begin(0, 0), -1);
        due("no purse to fill", x.fill(0, 0), -1);
        due("no side to tell of", x.side(0, 0), -1);
        due("no tune is fair", x.fair(0), -1);
        due("nobody can wait", x.waits(1, 0), -2);
        due("no lots", x.lots(-1, -1, 1, 0, 0), -1);
        Asker a = Asker.at(GOOD);
        a.words.begin(0, 0);
        due("no rule 0", a.words.run(0, 0), -2);
        due("the first rule is number 0", a.rule("still"), 0);
    }

    // ---- the tape ----

    private static int feedText(LastWords x, String text) {
        return x.feed(Asker.four(text, 0), Asker.four(text, 4), Asker.four(text, 8), Asker.four(text, 12), Asker.four(text, 16));
    }

    private static void bytesComeBehind() {
        LastWords x = new LastWords();
        feedText(x, "tune 2 2;word 1;word");
        feedText(x, " 2;purse 1 6;tune 1 ");
        feedText(x, "1;purse 0 4         ");
        due("three feeds", x.corner(), 2);
        due("purse of the second", x.side(1, 0), 6);
        due("purse of the third", x.side(0, 0), 4);
        // Behind what is left of a tape that was cut.
        feedText(x, "tune 3 3;word 1;;;;;");
        x.end(15);
        feedText(x, ";purse 1 2          ");
        due("behind the cut", x.corner(), 1);
        due("its purse", x.side(1, 0), 2);
    }

    private static void highestByteFirst() {
        LastWords x = new LastWords();
        x.feed(0x74756E65, 0x20332033, 0x3B776F72, 0x64203120, 0x20202020);
        due("tune 3 3;word 1", x.corner(), 1);
        due("its verse", x.begin(0, 0), 9);
        // The byte 255, told by a number below 0, stands at place 0.
        x.feed(0xFF202020, 0x20202020, 0x20202020, 0x20202020, 0x20202020);
        due("255 first", x.corner(), Asker.fault(0, 0));
        x.feed(0x202020FF, 0x20202020, 0x20202020, 0x20202020, 0x20202020);
        due("255 fourth", x.corner(), Asker.fault(3, 0));
        x.feed(0x20202020, 0x20202020, 0x20202020, 0x20202020, 0x202020FF);
        due("255 twentieth", x.corner(), Asker.fault(19, 0));
    }

    private static void tapeGrows() {
        LastWords x = new LastWords();
        due("empty", x.count(11), 0);
        due("one feed", x.feed(0, 0, 0, 0, 0), 20);
        due("two feeds", x.feed(0, 0, 0, 0, 0), 40);
        x.end(1);
        due("behind one byte", x.feed(0, 0, 0, 0, 0), 21);
        due("told", x.count(11), 21);
    }

    private static void fullTape() {
        Asker a = new Asker();
        a.tape(" ".repeat(385) + GOOD);
        due("400 bytes are on it", a.words.count(11), 400);
        due("not one feed more", a.words.feed(-1, -1, -1, -1, -1), -1);
        due("none came", a.words.count(11), 400);
        due("none was changed", a.words.corner(), 1);
        a.tape(GOOD + " ".repeat(366));
        due("381 bytes", a.words.count(11), 381);
        due("401 would be too many", a.words.feed(-1, -1, -1, -1, -1), -1);
        due("none came", a.words.count(11), 381);
        due("none was changed", a.words.corner(), 1);
        a.tape(GOOD + " ".repeat(365));
        due("400 would be just enough", feedText(a.words, ";tune 1 1           "), 400);
        due("they came", a.words.corner(), 2);
    }

    private static void firstBytesAlone() {
        LastWords x = new LastWords();
        due("none of none", x.end(0), 0);
        feedText(x, GOOD + ";;;;;");
        due("all", x.end(20), 20);
        due("15", x.end(15), 15);
        due("told", x.count(11), 15);
        due("the first ones", x.corner(), 1);
        feedText(x, GOOD);
        due("none", x.end(0), 0);
        due("told", x.count(11), 0);
        due("none are left", x.corner(), Asker.fault(0, 0));
        for (int i = 0; i < 20; i++) {
            x.feed(0, 0, 0, 0, 0);
        }
        due("all of a full one", x.end(400), 400);
    }

    private static void refusedCut(int n) {
        Asker a = Asker.busy().tape(GOOD);
        String before = a.seen();
        due("end(" + n + ")", a.words.end(n), -1);
        a.dueSame("end(" + n + ")", before);
        due("its bytes are there", a.words.corner(), 1);
    }

    private static void cutTooLong() {
        due("one of none", new LastWords().end(1), -1);
        refusedCut(16);
        refusedCut(20);
        refusedCut(400);
        refusedCut(Integer.MAX_VALUE);
    }

    private static void cutBelowZero() {
        refusedCut(-1);
        refusedCut(Integer.MIN_VALUE);
    }

    // ---- corner() and rule() ----

    private static void cornerEmptiesTape() {
        Asker a = new Asker();
        due("a corner", a.corner(GOOD), 1);
        due("empty then", a.words.count(11), 0);
        due("an empty one is a fault", a.words.corner(), Asker.fault(0, 0));
        due("a fault", a.corner("tune"), Asker.fault(4, 0));
        due("empty then too", a.words.count(11), 0);
    }

    private static void cornerTakesPlace() {
        Asker a = Asker.at("tune 9 8;tune 1 1;word 9;word 8;again 9;purse 0 7;purse 1 6");
        due("another", a.corner("word 1;tune 1 3;purse 1 1"), 1);
        due("tunes", a.words.count(0), 1);
        due("words", a.words.count(1), 1);
        due("purse 0", a.words.side(0, 0), 0);
        due("purse 1", a.words.side(1, 0), 1);
        due("no tune 1", a.words.begin(1, 0), -1);
        due("verse", a.words.begin(0, 0), 3);
        due("no word 1", a.words.speak(1), -1);
        due("beats of word 0", a.words.speak(0), 2);
        a.words.speak(0);
        due("nothing more for a word said again", a.words.speak(0), 0);
        due("a third", a.corner("word 1;tune 1 3"), 1);
        due("no purse 1", a.words.side(1, 0), 0);
    }

    private static void cornerBeginsAnew() {
        Asker a = Asker.busy();
        due("another corner", a.corner(GOOD), 1);
        due("no quarrel", a.words.count(4), -1);
        due("nothing to be still in", a.words.still(), -2);
        due("none won", a.words.count(8), 0);
        due("none won by 0", a.words.side(0, 3), 0);
        due("none won by 1", a.words.side(1, 3), 0);
        due("an empty hat", a.words.count(6), 0);
        due("nobody waits", a.words.count(9), 0);
        due("nobody has a place", a.words.order(1), -2);
        due("x stays", a.words.count(10), 77);
        due("nothing said last", a.words.side(1, 1), -1);
        due("nothing said", a.words.side(1, 2), 0);
        due("rules stay", a.words.count(2), 1);
    }

    private static void tunesTold() {
        Asker a = new Asker();
        due("one", a.corner("word 1;tune 1 1"), 1);
        due("four", a.corner("tune 1 1;tune 1 1;word 1;tune 1 1;tune 1 1"), 4);
    }

    private static void faultyCornerChangesNothing() {
        Asker a = Asker.busy().tape("");
        String before = a.seen();
        int left = a.words.count(3);
        due("a fault behind much that is good", a.corner("tune 9 8;word 9;again 9;purse 0 7;purse 1 7;word 0"), Asker.fault(49, 1));
        a.dueSame("a fault", before);
        due("it goes on by the corner there was", a.words.speak(0), left - 2);
        due("of no text", a.corner(""), Asker.fault(0, 0));
        Asker b = new Asker();
        due("a fault on a new object", b.corner("tune 1 1;word 1;x"), Asker.fault(16, 0));
        due("no corner", b.words.begin(0, 0), -1);
    }

    private static void ruleEmptiesTape() {
        Asker a = new Asker();
        due("a rule", a.rule("still"), 0);
        due("empty then", a.words.count(11), 0);
        due("a fault", a.rule("stil"), Asker.fault(0, 0));
        due("empty then too", a.words.count(11), 0);
        due("an empty one is a fault", a.words.rule(), Asker.fault(0, 0));
    }

    private static void rulesAreNumbered() {
        Asker a = new Asker();
        for (int number = 0; number < 6; number++) {
            due("rule " + number, a.rule("say 0"), number);
            due("so many", a.words.count(2), number + 1);
        }
    }

    private static void faultyRuleIsNone() {
        Asker a = Asker.busy().tape("");
        String before = a.seen();
        due("a fault behind what is good", a.rule("say 1;throw;still if left<0;say 4"), Asker.fault(32, 1));
        a.dueSame("a fault", before);
        due("there is no such rule", a.words.run(1, 1), -2);
        due("its number is the next one's", a.rule("say 0"), 1);
        due("in which nothing of the fault is left", a.words.would(1, -1, 1), 1);
        due("nor of its test", a.words.would(-1, 1, 1), 2);
    }

    private static void sixRules() {
        Asker a = Asker.busy();
        for (int number = 1; number < 6; number++) {
            due("rule " + number, a.rule("say 0"), number);
        }
        for (String text : new String[] {GOOD, "still", "still if", ""}) {
            a.tape(text);
            String before = a.seen();
            due("a seventh <" + text + ">", a.words.rule(), -1);
            a.dueSame("a seventh", before);
        }
        due("the last one is as it was", a.words.would(5, 5, 1) > 1 ? 1 : 0, 1);
        a.tape(GOOD).words.rule();
        due("the bytes are there", a.words.corner(), 1);
        due("six with another corner too", a.rule("still"), -1);
    }

    // ---- what a corner tells ----

    private static void good(String text, int tunes) {
        due("corner <" + text + ">", new Asker().corner(text), tunes);
    }

    private static void longestCorner() {
        good(" ".repeat(385) + GOOD, 1);
        good(GOOD + " ".repeat(385), 1);
        Asker.cornerFault(" ".repeat(386) + "tune 2 2;word ", 400, 0);
        // Nothing is read behind it: names, numbers and signs that could go on there.
        Asker.cornerFault(" ".repeat(397) + "tun", 397, 0);
        Asker.cornerFault(" ".repeat(396) + "tune", 400, 0);
        Asker.cornerFault(" ".repeat(394) + "tune 1", 400, 0);
        Asker.ruleFault(" ".repeat(389) + "still if 1<", 400, 0);
        Asker.ruleFault(" ".repeat(388) + "still if 1<=", 400, 0);
        // Nor what is cut away.
        Asker a = new Asker();
        a.tape(" ".repeat(384) + GOOD + "x").words.end(399);
        due("399 bytes", a.words.corner(), 1);
        a.tape("tune 1 1;word 12").words.end(15);
        due("a number that is cut", a.words.corner(), 1);
        a.tape("tune 1 1;word 1;again 1").words.end(19);
        due("a name that is cut", a.words.corner(), Asker.fault(16, 0));
    }

    private static void sixteenClauses() {
        good(GOOD + ";purse 0 1".repeat(14), 1);
        Asker.cornerFault(GOOD + ";purse 0 1".repeat(15), 156, 4);
        Asker.cornerFault("tune 1 1", 8, 0);
        Asker.cornerFault("", 0, 0);
        Asker.cornerFault(";" + GOOD, 0, 0);
        Asker.cornerFault(GOOD + ";", 16, 0);
        Asker.cornerFault("tune 2 2;;word 1", 9, 0);
    }

    private static void bars() {
        Asker.cornerFault("tune 0 1;word 1", 5, 1);
        good("tune 1 1;word 1", 1);
        good("tune 9 1;word 1", 1);
        Asker.cornerFault("tune 10 1;word 1", 5, 1);
        Asker.cornerFault("tune 99999 1;word 1", 5, 1);
    }

    private static void beatsOfBar() {
        Asker.cornerFault("tune 1 0;word 1", 7, 1);
        good("tune 1 1;word 1", 1);
        good("tune 1 8;word 1", 1);
        Asker.cornerFault("tune 1 9;word 1", 7, 1);
    }

    private static void beatsOfWord() {
        Asker.cornerFault("tune 1 1;word 0", 14, 1);
        Asker.cornerFault("tune 1 1;word 10", 14, 1);
        LastWords x = Asker.at("tune 2 5;word 1;word 9").words;
        x.begin(0, 0);
        due("of one beat", x.speak(0), 9);
        due("of nine beats", x.speak(1), 0);
    }

    private static void purses() {
        LastWords x = Asker.at("tune 1 1;word 1;purse 0 0;purse 1 7").words;
        due("0", x.side(0, 0), 0);
        due("7", x.side(1, 0), 7);
        Asker.cornerFault("tune 1 1;word 1;purse 0 8", 24, 1);
        x = Asker.at("tune 1 1;word 1").words;
        due("side 0 without", x.side(0, 0), 0);
        due("side 1 without", x.side(1, 0), 0);
        x = Asker.at("purse 1 7;purse 0 3;tune 1 1;word 1;purse 1 0;purse 0 2;purse 0 5").words;
        due("the last told of 0", x.side(0, 0), 5);
        due("the last told of 1", x.side(1, 0), 0);
    }

    /** What is left of 72 beats behind word 0 (of one beat), said twice by either side. */
    private static int leftBehindAgain(String clause) {
        LastWords x = Asker.at("tune 9 8;word 1" + clause).words;
        x.begin(0, 0);
        for (int i = 0; i < 4; i++) {
            x.speak(0);
        }
        return x.count(3);
    }

    private static void again() {
        due("0", leftBehindAgain(";again 0"), 68);
        due("9", leftBehindAgain(";again 9"), 50);
        due("without", leftBehindAgain(""), 68);
        Asker.cornerFault(GOOD + ";again 10", 22, 1);
        Asker.cornerFault(GOOD + ";again 1;again 1", 24, 4);
        Asker.cornerFault(GOOD + ";again 0;again 0", 24, 4);
    }

    private static void fourTunesAndWords() {
        LastWords x = Asker.at("word 4;tune 1 5;word 3;tune 1 6;word 2;tune 1 7;word 1;tune 1 8").words;
        due("tunes", x.count(0), 4);
        due("words", x.count(1), 4);
        for (int number = 0; number < 4; number++) {
            due("tune " + number, x.begin(number, 0), 5 + number);
            due("word " + number, x.speak(number), 1 + 2 * number);
        }
        due("no tune 4", x.begin(4, 0), -1);
        due("no word 4", x.speak(4), -1);
    }

    private static void oneOfEach() {
        Asker.cornerFault("word 1", 6, 0);
        Asker.cornerFault("tune 1 1", 8, 0);
        Asker.cornerFault("purse 0 1;again 1", 17, 0);
        good("tune 1 1;word 1", 1);
    }

    private static void sidesOfPurses() {
        good(GOOD + ";purse 0 1;purse 1 1", 1);
        Asker.cornerFault(GOOD + ";purse 2 1", 22, 1);
        Asker.cornerFault(GOOD + ";purse 10 1", 22, 1);
    }

    private static void verses() {
        LastWords x = Asker.at("tune 1 1;tune 9 8;tune 9 1;tune 1 8;word 1").words;
        int[] wants = {1, 72, 9, 8};
        for (int tune = 0; tune < 4; tune++) {
            due("verse of tune " + tune, x.begin(tune, 0), wants[tune]);
            due("told", x.count(5), wants[tune]);
        }
    }

    // ---- what a rule tells ----

    private static void goodRule(String text) {
        due("rule <" + text + ">", new Asker().rule(text), 0);
    }

    private static void twelveClauses() {
        goodRule("say 0" + ";say 0".repeat(11));
        Asker.ruleFault("say 0" + ";say 0".repeat(12), 72, 4);
        goodRule("still");
        Asker.ruleFault("", 0, 0);
        Asker.ruleFault(";still", 0, 0);
        Asker.ruleFault("still;", 6, 0);
        Asker.ruleFault("still;;still", 6, 0);
        goodRule(" ".repeat(395) + "say 0");
        Asker.ruleFault(" ".repeat(396) + "say ", 400, 0);
        // The twelfth is done, if all before it may not be.
        Asker a = Asker.at("tune 1 3;word 1");
        a.rule("say 1;".repeat(11) + "say 0");
        a.words.begin(0, 0);
        due("by the twelfth clause", a.words.would(0, 0, 1), 3);
    }

    private static void wordsOfRules() {
        goodRule("say 0");
        goodRule("say 3");
        Asker.ruleFault("say 4", 4, 1);
        Asker.ruleFault("say 99999", 4, 1);
        Asker a = Asker.at("tune 1 3;word 1");
        due("words that are not told", a.rule("say 3;say 2;say 1"), 0);
        due("and one that is", a.rule("say 3;say 0"), 1);
        a.words.begin(0, 0);
        due("it is still", a.words.would(0, 0, 1), 1);
        due("it speaks", a.words.would(1, 1, 1), 3);
    }

    private static void blanks() {
        good("tune1 1;word1;purse0 1;again1", 1);
        good("   tune   1   1   ;   word   1   ;   purse   0   1   ;   again   1   ", 1);
        goodRule("say1if[not1+2*3<4]and left>=2or mine=1;throw;still");
        goodRule("  say  1  if  [  not  1  +  2  *  3  <  4  ]  and  left  >=  2  or  mine  =  1  ;  throw  ;  still  ");
        // Two numbers need one between, a word and a sign do not; and none stands within.
        Asker.cornerFault("tune 11;word 1", 5, 1);
        Asker.cornerFault("tu ne 1 1", 0, 0);
        Asker.ruleFault("still if 1< =2", 12, 0);
        Asker.ruleFault("still if 1 2=2", 11, 0);
        Asker.ruleFault("still if le ft=2", 9, 0);
        for (int other : new int[] {0, 9, 10, 13, 31, 33, 160}) {
            Asker.cornerFault("tune" + (char) other + "1 1", 4, 0);
            Asker.ruleFault((char) other + "still", 0, 0);
        }
    }

    private static void tenDeep() {
        goodRule("still if " + "[".repeat(10) + "1<2" + "]".repeat(10));
        goodRule("still if " + "not ".repeat(10) + "1<2");
        goodRule("still if " + "[not ".repeat(5) + "1<2" + "]".repeat(5));
        // One behind the other they are not within one another.
        String ten = "[".repeat(10) + "1<2" + "]".repeat(10);
        goodRule("still if " + ten + " and " + ten + " or " + "not ".repeat(10) + "1<2;still if " + ten);
        Asker.ruleFault("still if " + "[".repeat(11) + "1<2" + "]".repeat(11), 19, 2);
        Asker.ruleFault("still if " + "not ".repeat(11) + "1<2", 49, 2);
        Asker.ruleFault("still if " + "[not ".repeat(5) + "[1<2]" + "]".repeat(5), 34, 2);
        Asker.ruleFault("still if [1<2 and " + "not ".repeat(9) + "[1<2]]", 54, 2);
        // Ten nots hold as none, nine as one.
        Asker a = Asker.at("tune 1 3;word 1");
        a.rule("say 0 if " + "not ".repeat(10) + "1<2");
        a.rule("say 0 if " + "not ".repeat(9) + "1<2");
        a.words.begin(0, 0);
        due("ten nots", a.words.would(0, 0, 1), 3);
        due("nine nots", a.words.would(1, 1, 1), 1);
    }

    private static void sixtyTogether() {
        String sixty = "still if 1<2" + " or left<2".repeat(19);
        goodRule(sixty);
        goodRule("still if 1<2" + " or 1<2".repeat(9) + ";throw if 1<2" + " or 1<2".repeat(9));
        goodRule("still if 1" + "+1".repeat(57) + "<1");
        goodRule(sixty + ";say 3;throw;still");
        Asker.ruleFault(sixty + ";throw if 1", sixty.length() + 10, 3);
        Asker.ruleFault("still if 1" + "*1".repeat(60) + "<1", 129, 3);
        // The last one of sixty counts.
        Asker a = Asker.at("tune 1 3;word 1");
        a.rule("say 0 if 1" + "+1".repeat(57) + "=58");
        a.rule("say 0 if 2<1" + " or 2<1".repeat(18) + " or 1<2");
        a.words.begin(0, 0);
        due("58 ones", a.words.would(0, 0, 1), 3);
        due("the twentieth fact holds", a.words.would(1, 1, 1), 3);
    }

    // ---- values ----

    /** Whether a test holds for side 0, as a quarrel of 10 beats begins. */
    private static void holds(String test, boolean want) {
        Asker a = Asker.at("tune 2 5;word 2;word 3;purse 0 2;purse 1 3");
        due("rule <" + test + ">", a.rule("say 1 if " + test + ";say 0"), 0);
        a.words.begin(0, 0);
        due("test <" + test + ">", a.words.would(0, -1, 3), want ? 7 : 8);
    }

    /** Whether a test holds in turn for who moves next; the quarrel goes on. */
    private static void holdsNow(Asker a, String test, boolean want) {
        int rule = a.rule("still if " + test + ";say 0");
        due("rule <" + test + ">", rule < 0 ? rule : 0, 0);
        due("test <" + test + ">", a.words.would(rule, rule, 1) == 1 ? 1 : 0, want ? 1 : 0);
    }

    private static void partsAndFacts() {
        holds("1=1", true);
        holds("1=2", false);
        holds("1=1 and 1=2", false);
        holds("1=2 and 1=1", false);
        holds("1=1 and 1=1 and 1=1 and 1=2", false);
        holds("1=2 or 1=2 or 1=2 or 1=1", true);
        holds("1=1 or 1=2 and 1=2", true);
        holds("1=2 and 1=2 or 1=1", true);
        holds("1=2 and [1=2 or 1=1]", false);
        Asker.ruleFault("still if 1=1 or", 15, 0);
        Asker.ruleFault("still if 1=1 and or 1=1", 17, 0);
        Asker.ruleFault("still if 1=1 1=1", 13, 0);
    }

    private static void signs() {
        String[] signs = {"<", "<=", "=", ">=", ">"};
        boolean[][] wants = {{true, true, false, false, false}, {false, true, true, true, false}, {false, false, false, true, true}};
        for (int way = 0; way < 3; way++) {
            for (int sign = 0; sign < 5; sign++) {
                holds("left" + signs[sign] + (11 - way), wants[way][sign]);
            }
        }
        Asker.ruleFault("still if 1=<2", 11, 0);
        Asker.ruleFault("still if 1=>2", 11, 0);
        Asker.ruleFault("still if 1==2", 11, 0);
        Asker.ruleFault("still if 1<>2", 11, 0);
        Asker.ruleFault("still if 1!=2", 10, 0);
    }

    private static void digits() {
        holds("0=00000", true);
        holds("99999=99998+1", true);
        holds("00010=left", true);
        Asker.ruleFault("still if 000000=0", 9, 1);
        Asker.ruleFault("still if 100000=0", 9, 1);
        Asker.ruleFault("still if 1=" + "9".repeat(300), 11, 1);
        Asker.ruleFault("still if =0", 9, 0);
        good("tune 00009 00008;word 00001", 1);
        Asker.cornerFault("tune 000001 1;word 1", 5, 1);
        // The signs beside the digits are none.
        Asker.ruleFault("still if 1:=0", 10, 0);
        Asker.cornerFault("tune / 1", 5, 0);
        Asker.cornerFault("tune 1: 1", 6, 0);
    }

    private static void letters() {
        for (String own : new String[] {"side", "left", "verse", "mine", "theirs", "last", "heard", "said", "moves"}) {
            goodRule("still if " + own + "<1");
            Asker.ruleFault("still if " + own + "a<1", 9, 0);
            Asker.ruleFault("still if " + own + "z<1", 9, 0);
            Asker.ruleFault("still if " + own.substring(1) + "<1", 9, 0);
            Asker.ruleFault("still if " + own.substring(0, own.length() - 1) + "<1", 9, 0);
            Asker.ruleFault("still if " + own + "1<1", 9 + own.length(), 0);
            Asker.ruleFault("still if " + own + "`<1", 9 + own.length(), 0);
            Asker.ruleFault("still if " + own + "{<1", 9 + own.length(), 0);
            Asker.ruleFault("still if " + own + "A<1", 9 + own.length(), 0);
            Asker.ruleFault("still if " + (char) (own.charAt(0) - 32) + own.substring(1) + "<1", 9, 0);
        }
    }

    private static Asker quarrelOfSixteen() {
        Asker a = Asker.at("tune 2 8;word 1;word 2;purse 0 1");
        a.words.begin(0, 0);
        return a;
    }

    private static void pennies() {
        Asker a = Asker.at("tune 2 8;word 1;purse 0 7");
        a.words.begin(0, 0);
        holdsNow(a, "mine=7 and theirs=0", true);
        a.words.toss();
        holdsNow(a, "mine=6 and theirs=0", true);
        a.words.speak(0);
        holdsNow(a, "mine=0 and theirs=6", true);
        a.words.fill(1, 7);
        holdsNow(a, "mine=7 and theirs=6", true);
        a.words.begin(0, 0);
        holdsNow(a, "mine=6 and theirs=7", true);
    }

    private static void lastWord() {
        Asker a = quarrelOfSixteen();
        holdsNow(a, "last=9", true);
        a.words.speak(1);
        holdsNow(a, "last=9", true);
        a.words.speak(0);
        holdsNow(a, "last=1", true);
        a.words.speak(0);
        holdsNow(a, "last=0", true);
        a.words.begin(0, 0);
        holdsNow(a, "last=9", true);
    }

    private static void heardWord() {
        Asker a = quarrelOfSixteen();
        holdsNow(a, "heard=9", true);
        a.words.speak(1);
        holdsNow(a, "heard=1", true);
        a.words.speak(0);
        holdsNow(a, "heard=0", true);
        a.words.begin(0, 1);
        holdsNow(a, "heard=9", true);
    }

    private static void saidWords() {
        Asker a = quarrelOfSixteen();
        holdsNow(a, "said=0", true);
        a.words.speak(0);
        holdsNow(a, "said=0", true);
        a.words.speak(0);
        a.words.toss();
        holdsNow(a, "said=1", true);
        a.words.begin(0, 0);
        holdsNow(a, "said=0", true);
    }

    private static void movesOfBoth() {
        Asker a = quarrelOfSixteen();
        holdsNow(a, "moves=0", true);
        a.words.toss();
        holdsNow(a, "moves=1", true);
        a.words.speak(0);
        a.words.speak(0);
        holdsNow(a, "moves=3", true);
        a.words.begin(0, 0);
        holdsNow(a, "moves=0", true);
    }

    /** -2^63, the one way to a term below 0. */
    private static final String LOWEST = "65536*65536*65536*32768";

    private static void towardsZero() {
        holds("7/2=3", true);
        holds("1/2=0", true);
        holds("99999/99999=1", true);
        holds("99998/99999=0", true);
        holds(LOWEST + "/3*3=" + LOWEST + "+2", true);
        holds(LOWEST + "/32768/65536/65536/99999=0-0", true);
        holds("0-7/2=0-3", true);
    }

    private static void byZero() {
        holds("5/0=0", true);
        holds("0/0=0", true);
        holds("left/moves=0", true);
        holds("7/0*5+2=2", true);
        holds(LOWEST + "/0=0", true);
    }

    private static void goesRound() {
        holds(LOWEST + "<0", true);
        holds(LOWEST + "-1>0", true);
        holds(LOWEST + "-1+1=" + LOWEST, true);
        holds("65536*65536*65536*65536=0", true);
        holds("65536*65536*65536*65536+5=5", true);
        holds("65536*32768>0 and 65536*65536=65536*32768*2 and 65536*65536>0", true);
        holds("0-" + LOWEST + "=" + LOWEST, true);
        long product = 99999L * 99999 * 99999 * 99999;
        holds("99999*99999*99999*99999>0", product > 0);
        holds("99999*99999*99999*99999*99999>0", product * 99999 > 0);
    }

    // ---- faults ----

    private static void firstFault() {
        Asker.cornerFault("x", 0, 0);
        Asker.cornerFault("tune 0 0;word 0", 5, 1);
        Asker.cornerFault("tune 1 0;word 0", 7, 1);
        Asker.cornerFault("tune 1 1;word 0;again", 14, 1);
        Asker.ruleFault("say 9;x", 4, 1);
        Asker.ruleFault("say 1;x;say 9", 6, 0);
        Asker.cornerFault(" ".repeat(399) + "x", 399, 0);
        Asker.cornerFault(" ".repeat(400), 400, 0);
        due("at the last byte", new Asker().corner(" ".repeat(399) + "x"), -2 - (1 + 8 * 399));
        due("at the first byte", new Asker().rule("x"), -3);
        // Of a fault and the end it is the fault; a clause that is never reached is not one too many.
        Asker.cornerFault("purse 0 1;purse 0 9" + ";purse 0 1".repeat(16), 18, 1);
    }

    private static void misplaced() {
        for (int other : new int[] {0, 1, 31, 33, 58, 64, 65, 90, 91, 96, 123, 127, 128, 255}) {
            Asker.cornerFault((char) other + GOOD, 0, 0);
            Asker.cornerFault(GOOD + (char) other, 15, 0);
            Asker.ruleFault("say 1" + (char) other, 5, 0);
            Asker.ruleFault("still if 1=2" + (char) other, 12, 0);
        }
        Asker.cornerFault("tunes 1 1", 0, 0);
        Asker.cornerFault("tun 1 1", 0, 0);
        Asker.cornerFault("still", 0, 0);
        Asker.cornerFault("tune 1 1 1", 9, 0);
        Asker.cornerFault("tune 1 1 999999", 9, 0);
        Asker.cornerFault("tune 1 tune", 7, 0);
        Asker.ruleFault("throws", 0, 0);
        Asker.ruleFault("word 1", 0, 0);
        Asker.ruleFault("still 1", 6, 0);
        Asker.ruleFault("say 1 iff 1=1", 6, 0);
        Asker.ruleFault("say if 1=1", 4, 0);
        Asker.ruleFault("still if x", 9, 0);
        Asker.ruleFault("still if and", 9, 0);
        Asker.ruleFault("still if 1<not 2", 11, 0);
        Asker.ruleFault("still if 1<[2]", 11, 0);
        Asker.ruleFault("still if not", 12, 0);
        Asker.ruleFault("still if -1<2", 9, 0);
        Asker.ruleFault("throw if left = 1]", 17, 0);
        Asker.ruleFault("still if [1<2 1", 14, 0);
        Asker.ruleFault("still if [1]", 11, 0);
        Asker.ruleFault("still if []", 10, 0);
    }

    private static void faultAtEnd() {
        Asker.cornerFault("", 0, 0);
        Asker.cornerFault("tune", 4, 0);
        Asker.cornerFault("tune 1", 6, 0);
        Asker.cornerFault("tune 1 1", 8, 0);
        Asker.cornerFault("tune 1 1  ", 10, 0);
        Asker.cornerFault("word 1", 6, 0);
        Asker.cornerFault(GOOD + ";", 16, 0);
        Asker.cornerFault(GOOD + "; ", 17, 0);
        Asker.ruleFault("say", 3, 0);
        Asker.ruleFault("say 1 if", 8, 0);
        Asker.ruleFault("throw if", 8, 0);
        Asker.ruleFault("still if 1", 10, 0);
        Asker.ruleFault("still if 1<", 11, 0);
        Asker.ruleFault("still if 1<2 or ", 16, 0);
        Asker.ruleFault("still if 1+", 11, 0);
        Asker.ruleFault("still if [1<2", 13, 0);
        Asker.ruleFault("say 1;", 6, 0);
        Asker.ruleFault(" ".repeat(400), 400, 0);
    }

    private static void badNumbers() {
        Asker.cornerFault("tune 123456 1", 5, 1);
        Asker.cornerFault("tune 1 000001", 7, 1);
        Asker.cornerFault("word 000001", 5, 1);
        Asker.cornerFault("purse 000000 1", 6, 1);
        Asker.cornerFault("purse 0 000000", 8, 1);
        Asker.cornerFault("again 000000", 6, 1);
        Asker.cornerFault("purse 2 x", 6, 1);
        Asker.cornerFault("tune  0", 6, 1);
        Asker.ruleFault("say 000000", 4, 1);
        Asker.ruleFault("say 4 x", 4, 1);
        Asker.ruleFault("still if 123456", 9, 1);
        Asker.ruleFault("still if left*123456", 14, 1);
        // Numbers that would go round in 32 or 64 bits to good ones.
        Asker.cornerFault("tune 4294967297 1", 5, 1);
        Asker.cornerFault("word 18446744073709551617", 5, 1);
    }

    private static void tooDeep() {
        Asker.ruleFault("still if " + "[".repeat(11), 19, 2);
        Asker.ruleFault("still if " + "[".repeat(10) + "  [", 21, 2);
        Asker.ruleFault("still if " + "[".repeat(10) + " not", 20, 2);
        Asker.ruleFault("still if " + "not ".repeat(10) + "not", 49, 2);
        Asker.ruleFault("still if " + "not ".repeat(10) + "[", 49, 2);
        Asker.ruleFault("still if " + "[".repeat(10) + "1<2 or [", 26, 2);
        Asker.ruleFault("still if " + "[".repeat(10) + "nots", 19, 0);
        Asker.ruleFault("still if " + "[".repeat(10), 19, 0);
    }

    private static void oneTooMany() {
        String sixty = "still if 1<2" + " or 1<2".repeat(19);
        Asker.ruleFault(sixty + " or 1<2", sixty.length() + 4, 3);
        Asker.ruleFault(sixty + " or   left<2", sixty.length() + 6, 3);
        Asker.ruleFault(sixty + " and not [12345", sixty.length() + 10, 3);
        Asker.ruleFault(sixty + "+1", sixty.length() + 1, 3);
        Asker.ruleFault(sixty + "*mine", sixty.length() + 1, 3);
        String values = "still if 1" + "+1".repeat(59);
        Asker.ruleFault(values + "<1", values.length(), 3);
        Asker.ruleFault(values + "  >=1", values.length() + 2, 3);
        // The sixtieth is the sign: the value behind it is one too many.
        String signed = "still if 1" + "+1".repeat(58) + "<";
        Asker.ruleFault(signed + "1", signed.length(), 3);
        Asker.ruleFault(signed, signed.length(), 0);
    }

    private static void oneClauseTooMany() {
        String sixteen = "purse 0 1;".repeat(16);
        Asker.cornerFault(sixteen + "purse 0 1", 160, 4);
        Asker.cornerFault(sixteen + "tune 1 1", 160, 4);
        Asker.cornerFault(sixteen + "word 1", 160, 4);
        Asker.cornerFault(sixteen + "again 1", 160, 4);
        Asker.cornerFault(sixteen + "   purse x", 163, 4);
        Asker.cornerFault(sixteen.substring(0, 159), 159, 0);
        String twelve = "throw;".repeat(12);
        Asker.ruleFault(twelve + "say 9", 72, 4);
        Asker.ruleFault(twelve + "throw", 72, 4);
        Asker.ruleFault(twelve + "  still if", 74, 4);
        goodRule(twelve.substring(0, 71));
    }

    private static void fifthAndSecond() {
        Asker.cornerFault("tune 1 1;".repeat(4) + "tune 0 0", 36, 4);
        Asker.cornerFault("tune 1 1;".repeat(4) + "word 1; tune", 44, 4);
        Asker.cornerFault("word 1;".repeat(4) + "word 0", 28, 4);
        Asker.cornerFault("word 1;".repeat(4) + "tune 1 1; word", 38, 4);
        Asker.cornerFault("again 1;again", 8, 4);
        Asker.cornerFault("again 0; tune 1 1;  again 77", 20, 4);
        good("tune 1 1;".repeat(4) + "word 1;word 1;word 1;word 1;again 0", 4);
    }

    private static void leastOfOnePlace() {
        String sixty = "still if 1<2" + " or 1<2".repeat(19);
        int next = sixty.length() + 4;
        Asker.ruleFault(sixty + " or 123456", next, 1);
        Asker.ruleFault(sixty + " or lefts", next, 0);
        Asker.ruleFault(sixty + " or ", next, 0);
        Asker.ruleFault(sixty + " or ]", next, 0);
        String values = "still if 1" + "+1".repeat(59);
        Asker.ruleFault(values + "]", values.length(), 0);
        Asker.ruleFault(values, values.length(), 0);
        Asker.cornerFault("purse 0 1;".repeat(16) + "purses", 160, 0);
        Asker.cornerFault("purse 0 1;".repeat(16), 160, 0);
        Asker.cornerFault("purse 0 1;".repeat(16) + "7", 160, 0);
        Asker.ruleFault("throw;".repeat(12) + "throws", 72, 0);
        Asker.ruleFault("throw;".repeat(12), 72, 0);
    }
}

/** Boundaries of promises 21 to 27, and of the terms that tell of the organ, draws, lots and images. */
final class OrganBoundaries {
    private static final int LOWEST = Integer.MIN_VALUE;
    private static final int HIGHEST = Integer.MAX_VALUE;
    private static final String PLAIN = "tune 1 1;word 1";

    private OrganBoundaries() {
    }

    static void hold(Sentences all) {
        waiting(all);
        drawing(all);
        counting(all);
        goingBack(all);
    }

    private static void waiting(Sentences all) {
        all.hold("Terms", "QUARRELS 0 to 6 that wait", OrganBoundaries::sixWait);
        all.hold("Terms", "BEATS (1 to 999) and a day's worth (0 to 99) each", OrganBoundaries::beatsAndWorth);
        all.hold("Promise 21", "(BEATS NONE: nobody waits then, 0)", OrganBoundaries::nobodyWaits);
        all.hold("Promise 21", "-2, and nothing happens, without these", OrganBoundaries::notToWait);
        all.hold("Promise 21", "or a CORNER", OrganBoundaries::noCornerToWaitAt);
        all.hold("Promise 21", "or if there are 6.", OrganBoundaries::noSeventh);
        all.hold("Terms", "the sum of worth times the BEATS that go by ahead of its end is least", OrganBoundaries::leastSum);
        all.hold("Terms", "of several the first (as a row of numbers)", OrganBoundaries::firstOrder);
        all.hold("Promise 22", "(-2: not so many)", OrganBoundaries::notSoMany);
        all.hold("Promise 22", "NONE for others.", OrganBoundaries::noSuchPlace);
    }

    private static void drawing(Sentences all) {
        all.hold("Terms", "DRAWS: x (0 to 2147483647; 0 at first)", OrganBoundaries::seeds);
        all.hold("Promise 23", "NONE, and nothing happens, below 0.", OrganBoundaries::seedBelowZero);
        all.hold("Terms", "becomes x * 1103515245 + 12345, of 2147483648 the rest", OrganBoundaries::drawsGoRound);
        all.hold("Terms", "LOTS m times (1 to 50)", OrganBoundaries::oneToFifty);
        all.hold("Terms", "purses each a DRAW mod (p and 1) (p 0 to 7; SIDE 0's first)", OrganBoundaries::pursesDrawn);
        all.hold("Terms", "BY two RULES, or (both NONE) by BEST PLAY", OrganBoundaries::twoRulesOrNone);
        all.hold("Terms", "pennies thrown, together (BY RULES alone; 0 else)", OrganBoundaries::noPenniesOfBestPlay);
        all.hold("Terms", "nothing stays, x as it was.", OrganBoundaries::nothingStays);
        all.hold("Promise 24", "NONE without these", OrganBoundaries::noLots);
        all.hold("Promise 24", "(RULES, or both NONE)", OrganBoundaries::noRulesForLots);
        all.hold("Promise 24", "or a CORNER.", OrganBoundaries::noCornerForLots);
    }

    private static void counting(Sentences all) {
        String in = "Promise 25";
        all.hold(in, "0: TUNES, 1: WORDS, 2: RULES", OrganBoundaries::countsOfTexts);
        all.hold(in, "3: BEATS left (0 without a QUARREL that goes on)", () -> withoutQuarrel(3, 0));
        all.hold(in, "4: whose turn it is (NONE without)", () -> withoutQuarrel(4, -1));
        all.hold(in, "5: BEATS of a VERSE (0 without)", () -> withoutQuarrel(5, 0));
        all.hold(in, "6: pennies in the HAT", OrganBoundaries::countOfHat);
        all.hold(in, "7: MOVES there were in the QUARREL that goes on (0 without)", () -> withoutQuarrel(7, 0));
        all.hold(in, "8: QUARRELS that were WON", OrganBoundaries::countOfWon);
        all.hold(in, "9: how many wait, 10: x, 11: bytes of the TAPE.", OrganBoundaries::countsOfRest);
        all.hold(in, "NONE for others.", OrganBoundaries::noSuchCount);
    }

    private static void goingBack(Sentences all) {
        all.hold("Terms", "IMAGES 0 to 3", OrganBoundaries::fourImages);
        all.hold("Terms", "all but the TAPE and the RULES, as it is; gone back to, it is as it was (these stay).", OrganBoundaries::asItWas);
        all.hold("Promise 26", "An IMAGE is made: QUARRELS that were WON", OrganBoundaries::madeAnew);
        all.hold("Promise 26", "NONE without it.", OrganBoundaries::noSuchImage);
        all.hold("Promise 27", "NONE, and nothing happens, if it was never made", OrganBoundaries::neverMade);
        all.hold("Promise 27", "or without it.", OrganBoundaries::noSuchImageToGoTo);
    }

    private static void due(String what, int got, int want) {
        Asker.due(what, got, want);
    }

    // ---- who waits ----

    private static void sixWait() {
        LastWords x = Asker.at(PLAIN).words;
        due("nobody", x.count(9), 0);
        due("their sum", x.order(0), 0);
        for (int number = 1; number <= 6; number++) {
            due("one more", x.waits(number, number), number);
            due("told", x.count(9), number);
        }
        due("the last place is taken", x.order(6) >= 0 ? 1 : 0, 1);
    }

    private static void dueWaits(int beats, int worth, int sum) {
        LastWords x = Asker.at(PLAIN).words;
        due("waits(" + beats + ", " + worth + ")", x.waits(beats, worth), 1);
        due("its sum", x.order(0), sum);
    }

    private static void beatsAndWorth() {
        dueWaits(1, 0, 0);
        dueWaits(1, 1, 1);
        dueWaits(1, 99, 99);
        dueWaits(999, 0, 0);
        dueWaits(999, 99, 98901);
    }

    private static void nobodyWaits() {
        for (int worth : new int[] {0, 99, 100, -1, LOWEST, HIGHEST}) {
            LastWords x = Asker.busy().words;
            due("waits(-1, " + worth + ")", x.waits(-1, worth), 0);
            due("nobody", x.count(9), 0);
            due("no sum", x.order(0), 0);
            due("no place", x.order(1), -2);
            due("once more", x.waits(-1, worth), 0);
            due("no corner", new LastWords().waits(-1, worth), 0);
        }
        LastWords x = Asker.at(PLAIN).words;
        for (int i = 0; i < 6; i++) {
            x.waits(1, 1);
        }
        due("six go", x.waits(-1, 0), 0);
        due("another comes", x.waits(5, 5), 1);
        due("its sum", x.order(0), 25);
    }

    private static void refusedWait(Asker a, int beats, int worth) {
        String before = a.seen();
        due("waits(" + beats + ", " + worth + ")", a.words.waits(beats, worth), -2);
        a.dueSame("waits(" + beats + ", " + worth + ")", before);
    }

    private static void notToWait() {
        for (int beats : new int[] {0, -2, 1000, LOWEST, HIGHEST}) {
            refusedWait(Asker.busy(), beats, 1);
        }
        for (int worth : new int[] {-1, 100, LOWEST, HIGHEST}) {
            refusedWait(Asker.busy(), 1, worth);
        }
    }

    private static void noCornerToWaitAt() {
        refusedWait(new Asker(), 1, 1);
        refusedWait(new Asker(), 999, 99);
        Asker a = new Asker();
        a.words.image(0);
        a.corner(PLAIN);
        a.words.waits(1, 1);
        a.words.back(0);
        refusedWait(a, 1, 1);
    }

    private static void noSeventh() {
        Asker a = Asker.busy();
        for (int number = 3; number <= 6; number++) {
            due("one more", a.words.waits(number, 99), number);
        }
        refusedWait(a, 1, 99);
        refusedWait(a, 0, 0);
    }

    /** Those that wait as rows of beats and worth; the sum and the order that are due. */
    private static void dueOrder(int[][] waiting, int sum, int... row) {
        LastWords x = Asker.at(PLAIN).words;
        for (int[] one : waiting) {
            x.waits(one[0], one[1]);
        }
        due("sum", x.order(0), sum);
        for (int place = 1; place <= 6; place++) {
            due("place " + place, x.order(place), place <= row.length ? row[place - 1] : -2);
        }
    }

    private static void leastSum() {
        dueOrder(new int[][] {}, 0);
        dueOrder(new int[][] {{7, 3}}, 21, 0);
        dueOrder(new int[][] {{10, 1}, {1, 10}}, 10 + 11, 1, 0);
        dueOrder(new int[][] {{3, 2}, {2, 1}, {1, 1}}, 1 + 8 + 6, 2, 0, 1);
        int[] most = {999, 99};
        dueOrder(new int[][] {most, most, most, most, most, most}, 99 * 999 * 21, 0, 1, 2, 3, 4, 5);
        dueOrder(new int[][] {{999, 1}, {998, 1}, {1, 98}, {1, 99}}, 99 + 2 * 98 + 1000 + 1999, 3, 2, 1, 0);
    }

    private static void firstOrder() {
        dueOrder(new int[][] {{2, 2}, {1, 1}, {3, 3}}, 4 + 3 + 18, 0, 1, 2);
        dueOrder(new int[][] {{5, 0}, {1, 0}, {999, 0}}, 0, 0, 1, 2);
        dueOrder(new int[][] {{5, 0}, {4, 8}, {1, 2}, {3, 0}, {2, 4}}, 32 + 10 + 28, 1, 2, 4, 0, 3);
        dueOrder(new int[][] {{1, 1}, {1, 2}, {1, 1}, {1, 2}, {1, 1}, {1, 2}}, 2 + 4 + 6 + 4 + 5 + 6, 1, 3, 5, 0, 2, 4);
    }

    private static void notSoMany() {
        for (int place = 1; place <= 6; place++) {
            due("nobody waits: order(" + place + ")", Asker.at(PLAIN).words.order(place), -2);
            due("no corner: order(" + place + ")", new LastWords().order(place), -2);
        }
        LastWords x = Asker.busy().words;
        due("two wait: order(2)", x.order(2), 0);
        due("two wait: order(3)", x.order(3), -2);
    }

    private static void noSuchPlace() {
        LastWords x = Asker.busy().words;
        for (int what : new int[] {-1, 7, LOWEST, HIGHEST}) {
            due("order(" + what + ")", x.order(what), -1);
            due("nobody waits: order(" + what + ")", new LastWords().order(what), -1);
        }
    }

    // ---- draws ----

    private static void seeds() {
        LastWords x = new LastWords();
        due("0 at first", x.count(10), 0);
        due("the most", x.seed(2147483647), 0);
        due("it is", x.count(10), 2147483647);
        due("the least", x.seed(0), 2147483647);
        due("it was", x.seed(1), 0);
        due("of one with a corner", Asker.at(PLAIN).words.seed(5), 0);
    }

    private static void seedBelowZero() {
        for (int seed : new int[] {-1, -2147483647, LOWEST}) {
            Asker a = Asker.busy();
            String before = a.seen();
            due("seed(" + seed + ")", a.words.seed(seed), -1);
            a.dueSame("seed(" + seed + ")", before);
        }
        due("no corner", new LastWords().seed(-1), -1);
    }

    private static long x;

    private static int draw(int below) {
        x = (x * 1103515245L + 12345L) % 2147483648L;
        return (int) (x / 65536 % below);
    }

    /** By "throw;still" the first speaker throws all that he has and loses; what is due by p, m and x. */
    private static int[] thrown(int tunes, int seed, int m, int p) {
        x = seed;
        int[] due = new int[3];
        for (int i = 0; i < m; i++) {
            draw(tunes);
            int first = draw(2);
            int[] purses = {draw(p + 1), draw(p + 1)};
            due[1 - first]++;
            due[2] += purses[first];
        }
        return due;
    }

    private static void dueThrown(Asker a, int tunes, int seed, int m, int p) {
        a.words.seed(seed);
        int[] wants = thrown(tunes, seed, m, p);
        for (int what = 0; what < 3; what++) {
            String call = "lots(0, 0, " + m + ", " + p + ", " + what + ") of x " + seed;
            due(call, a.words.lots(0, 0, m, p, what), wants[what]);
        }
    }

    private static Asker throwers(String corner) {
        Asker a = Asker.at(corner);
        a.rule("throw;still");
        return a;
    }

    private static void drawsGoRound() {
        int[] seeds = {0, 1, 2, 3, 65535, 65536, 1 << 30, 2147483646, 2147483647, 1103515245, 987654321};
        Asker a = throwers("tune 1 1;tune 1 2;tune 1 3;tune 1 4;word 1");
        for (int seed : seeds) {
            dueThrown(a, 4, seed, 1, 7);
            dueThrown(a, 4, seed, 50, 7);
        }
        // The tune that is drawn: of one beat each, an odd verse is the first speaker's.
        a = Asker.at("tune 1 1;tune 1 2;tune 1 4;word 1");
        a.rule("say 0");
        for (int seed : seeds) {
            a.words.seed(seed);
            x = seed;
            boolean isOdd = draw(3) == 0;
            int first = draw(2);
            due("won by 0, x " + seed, a.words.lots(0, 0, 1, 0, 0), isOdd == (first == 0) ? 1 : 0);
        }
    }

    private static void oneToFifty() {
        Asker a = throwers(PLAIN);
        for (int m : new int[] {1, 2, 49, 50}) {
            dueThrown(a, 1, 77, m, 3);
            due("all were won by one", a.words.lots(0, 0, m, 3, 0) + a.words.lots(0, 0, m, 3, 1), m);
            due("by best play too", a.words.lots(-1, -1, m, 3, 0) + a.words.lots(-1, -1, m, 3, 1), m);
            dueBest(m, 3);
        }
        for (int m : new int[] {0, -1, 51, LOWEST, HIGHEST}) {
            due("lots of " + m, a.words.lots(0, 0, m, 3, 0), -1);
            due("best play of " + m, a.words.lots(-1, -1, m, 3, 0), -1);
        }
    }

    /** Best play of one beat a word: of an odd verse the richer has it, of equals the first, of an even one the second. */
    private static void dueBest(int m, int p) {
        LastWords words = Asker.at("tune 1 1;tune 1 2;tune 1 3;tune 1 5;word 1").words;
        int seed = 1234567 + p;
        words.seed(seed);
        x = seed;
        int[] wants = new int[3];
        for (int i = 0; i < m; i++) {
            int tune = draw(4);
            int first = draw(2);
            int[] purses = {draw(p + 1), draw(p + 1)};
            boolean firstHas = tune != 1 && purses[first] >= purses[1 - first];
            wants[firstHas ? first : 1 - first]++;
        }
        for (int what = 0; what < 3; what++) {
            due("lots(-1, -1, " + m + ", " + p + ", " + what + ")", words.lots(-1, -1, m, p, what), wants[what]);
        }
    }

    private static void pursesDrawn() {
        Asker a = throwers("tune 1 1;word 1;purse 0 7;purse 1 7");
        for (int p = 0; p <= 7; p++) {
            dueThrown(a, 1, 4711, 50, p);
            dueBest(50, p);
            dueBest(49, p);
            dueBest(1, p);
        }
        due("no pennies", a.words.lots(0, 0, 50, 0, 2), 0);
        for (int p : new int[] {-1, 8, LOWEST, HIGHEST}) {
            due("p " + p, a.words.lots(0, 0, 1, p, 0), -1);
            due("best play, p " + p, a.words.lots(-1, -1, 1, p, 2), -1);
        }
    }

    private static void twoRulesOrNone() {
        // Of one word each the first speaker has it; by rule 0 he is still, by rule 1 he speaks.
        Asker a = Asker.at(PLAIN);
        a.rule("still");
        a.rule("say 0");
        x = 0;
        int firstIsZero = 0;
        for (int i = 0; i < 49; i++) {
            draw(1);
            firstIsZero += 1 - draw(2);
            draw(1);
            draw(1);
        }
        due("the sides are not first as often", firstIsZero == 49 - firstIsZero ? 1 : 0, 0);
        due("both are still", a.words.lots(0, 0, 49, 0, 0), 49 - firstIsZero);
        due("both speak", a.words.lots(1, 1, 49, 0, 0), firstIsZero);
        due("0 is still", a.words.lots(0, 1, 49, 0, 0), 0);
        due("1 is still", a.words.lots(1, 0, 49, 0, 0), 49);
        due("best play", a.words.lots(-1, -1, 49, 0, 0), firstIsZero);
        due("best play, by 1", a.words.lots(-1, -1, 49, 0, 1), 49 - firstIsZero);
        // Over as it begins: the second one has won.
        a = Asker.at("tune 1 1;word 2");
        a.rule("say 0");
        due("too short, by rules", a.words.lots(0, 0, 49, 0, 1), firstIsZero);
        due("too short, by best play", a.words.lots(-1, -1, 49, 0, 1), firstIsZero);
    }

    private static void noPenniesOfBestPlay() {
        Asker a = throwers("tune 1 1;word 1;purse 0 7;purse 1 7");
        due("by best play", a.words.lots(-1, -1, 50, 7, 2), 0);
        due("by rules", a.words.lots(0, 0, 50, 7, 2), thrown(1, 0, 50, 7)[2]);
        due("what is in the hat does not count", hatAhead(a).lots(0, 0, 50, 7, 2), thrown(1, 0, 50, 7)[2]);
    }

    private static LastWords hatAhead(Asker a) {
        a.words.begin(0, 0);
        a.words.toss();
        a.words.toss();
        return a.words;
    }

    private static void nothingStays() {
        Asker a = Asker.busy();
        a.rule("throw;say 0");
        String before = a.seen();
        int left = a.words.count(3);
        for (int what = 0; what < 3; what++) {
            due("twice the same", a.words.lots(1, 1, 50, 7, what), a.words.lots(1, 1, 50, 7, what));
            due("twice the same", a.words.lots(-1, -1, 50, 7, what), a.words.lots(-1, -1, 50, 7, what));
        }
        a.dueSame("lots", before);
        due("it goes on", a.words.speak(0), left - 2);
    }

    private static void noLots() {
        LastWords x = Asker.busy().words;
        for (int what : new int[] {-1, 3, LOWEST, HIGHEST}) {
            due("what " + what, x.lots(0, 0, 1, 1, what), -1);
            due("best play, what " + what, x.lots(-1, -1, 1, 1, what), -1);
        }
        for (int bad : new int[] {-1, LOWEST, HIGHEST}) {
            due("m " + bad, x.lots(0, 0, bad, 1, 0), -1);
            due("p " + bad, x.lots(0, 0, 1, bad, 0), -1);
        }
    }

    private static void noRulesForLots() {
        LastWords x = Asker.busy().words;
        due("one rule", x.lots(0, 0, 1, 1, 0) >= 0 ? 1 : 0, 1);
        for (int rule : new int[] {-2, 1, 5, 6, LOWEST, HIGHEST}) {
            due("lots(" + rule + ", 0, ..)", x.lots(rule, 0, 1, 1, 0), -1);
            due("lots(0, " + rule + ", ..)", x.lots(0, rule, 1, 1, 0), -1);
            due("lots(" + rule + ", -1, ..)", x.lots(rule, -1, 1, 1, 0), -1);
            due("lots(-1, " + rule + ", ..)", x.lots(-1, rule, 1, 1, 0), -1);
        }
        due("lots(0, -1, ..)", x.lots(0, -1, 1, 1, 0), -1);
        due("lots(-1, 0, ..)", x.lots(-1, 0, 1, 1, 0), -1);
        due("lots(0, 0, ..) without rules", Asker.at(PLAIN).words.lots(0, 0, 1, 1, 0), -1);
    }

    private static void noCornerForLots() {
        Asker a = new Asker();
        a.rule("still");
        for (int what = 0; what < 3; what++) {
            due("by rules", a.words.lots(0, 0, 1, 1, what), -1);
            due("by best play", a.words.lots(-1, -1, 1, 1, what), -1);
        }
    }

    // ---- counts ----

    private static void countsOfTexts() {
        Asker a = new Asker();
        for (int what = 0; what < 3; what++) {
            due("new: count(" + what + ")", a.words.count(what), 0);
        }
        a.corner("tune 1 1;tune 1 1;tune 1 1;tune 1 1;word 1;word 1;word 1;word 1");
        for (int rule = 0; rule < 7; rule++) {
            a.rule("still");
        }
        due("tunes", a.words.count(0), 4);
        due("words", a.words.count(1), 4);
        due("rules", a.words.count(2), 6);
    }

    private static void withoutQuarrel(int what, int none) {
        due("new", new LastWords().count(what), none);
        Asker a = Asker.at("tune 2 4;tune 1 1;word 2;word 8");
        LastWords x = a.words;
        due("no quarrel yet", x.count(what), none);
        int[] goesOn = {0, 0, 0, 6, 1, 8, 0, 1};
        x.begin(0, 0);
        x.speak(0);
        due("one goes on", x.count(what), goesOn[what]);
        x.image(0);
        x.still();
        due("it is over", x.count(what), none);
        x.begin(1, 0);
        due("over as it began", x.count(what), none);
        x.begin(0, 0);
        x.speak(1);
        due("over by a word", x.count(what), none);
        x.back(0);
        due("gone back to", x.count(what), goesOn[what]);
        a.corner(PLAIN);
        due("another corner", x.count(what), none);
    }

    private static void countOfHat() {
        LastWords x = Asker.at("tune 1 1;word 1;purse 0 7;purse 1 7").words;
        due("empty", x.count(6), 0);
        for (int first = 0; first < 2; first++) {
            x.begin(0, first);
            for (int i = 1; i <= 7; i++) {
                x.toss();
                due("thrown by " + first, x.count(6), 7 * first + i);
            }
            x.still();
        }
        due("they stay", x.count(6), 14);
        x.fill(0, 1);
        x.begin(0, 0);
        x.toss();
        due("one more", x.count(6), 15);
    }

    private static void countOfWon() {
        LastWords x = Asker.at("tune 1 3;tune 1 1;word 1;word 3").words;
        due("none", x.count(8), 0);
        x.begin(0, 0);
        due("one goes on", x.count(8), 0);
        x.still();
        due("by 1", x.count(8), 1);
        x.begin(0, 0);
        x.speak(1);
        due("by 0", x.count(8), 2);
        x.begin(0, 0);
        x.begin(0, 1);
        due("nobody has won that", x.count(8), 2);
        due("of sides", x.side(0, 3) + x.side(1, 3), 2);
    }

    private static void countsOfRest() {
        Asker a = new Asker();
        for (int what = 9; what <= 11; what++) {
            due("new: count(" + what + ")", a.words.count(what), 0);
        }
        a = Asker.at(PLAIN);
        for (int i = 0; i < 7; i++) {
            a.words.waits(1, 1);
        }
        a.words.seed(HIGHEST);
        a.tape(" ".repeat(400));
        due("wait", a.words.count(9), 6);
        due("x", a.words.count(10), HIGHEST);
        due("bytes", a.words.count(11), 400);
    }

    private static void noSuchCount() {
        for (int what : new int[] {-1, 12, LOWEST, HIGHEST}) {
            due("count(" + what + ")", Asker.busy().words.count(what), -1);
            due("new: count(" + what + ")", new LastWords().count(what), -1);
        }
    }

    // ---- images ----

    private static void fourImages() {
        LastWords x = Asker.at(PLAIN).words;
        for (int k = 0; k < 4; k++) {
            x.seed(100 + k);
            due("image(" + k + ")", x.image(k), 0);
        }
        for (int k = 3; k >= 0; k--) {
            due("back(" + k + ")", x.back(k), 0);
            due("x of it", x.count(10), 100 + k);
        }
        due("back(3), with the others gone to since", x.back(3), 0);
        due("x of it", x.count(10), 103);
    }

    private static void asItWas() {
        Asker a = Asker.busy();
        String[] before = a.seen().trim().split(" ");
        due("an image", a.words.image(0), 2);
        due("its next move", a.words.speak(0), 9);
        a.words.toss();
        a.words.still();
        a.words.fill(0, 7);
        a.words.fill(1, 7);
        a.words.seed(5);
        a.rule("say 0");
        due("another corner", a.corner("tune 9 8;word 9;word 9;word 9;again 3"), 1);
        a.words.waits(1, 1);
        a.words.waits(2, 50);
        a.words.waits(3, 99);
        a.words.begin(0, 0);
        a.tape("vwxyz");
        due("back", a.words.back(0), 2);
        String[] behind = a.seen().trim().split(" ");
        for (int i = 0; i < before.length; i++) {
            int want = i == 2 ? 2 : i == 11 ? 5 : Integer.parseInt(before[i]);
            due("what is seen at " + i, Integer.parseInt(behind[i]), want);
        }
        due("the rule stays", a.words.would(1, 1, 1) >= 0 ? 1 : 0, 1);
        due("the bytes stay", a.words.rule(), Asker.fault(0, 0));
        due("again is as it was, and who said what", a.words.speak(1), 7);
        due("back once more", a.words.back(0), 2);
        due("the same move", a.words.speak(0), 9);
        // One of no corner.
        Asker none = new Asker();
        due("of nothing", none.words.image(3), 0);
        none.corner(PLAIN);
        due("back to nothing", none.words.back(3), 0);
        due("no corner", none.words.begin(0, 0), -1);
        due("no tunes", none.words.count(0), 0);
        due("no side", none.words.side(0, 0), -1);
    }

    private static void madeAnew() {
        LastWords x = Asker.at("tune 1 4;word 1").words;
        due("none won", x.image(0), 0);
        x.begin(0, 0);
        x.still();
        due("one won", x.image(1), 1);
        x.begin(0, 0);
        due("one goes on", x.image(2), 1);
        x.still();
        due("two won, in place of the one there was", x.image(0), 2);
        due("back to it", x.back(0), 2);
        due("two won", x.count(8), 2);
        due("back to another", x.back(1), 1);
        due("one won", x.side(1, 3), 1);
        due("none goes on", x.count(4), -1);
        due("back to the third", x.back(2), 1);
        due("one goes on", x.count(4), 0);
    }

    private static void noSuchImage() {
        for (int k : new int[] {-1, 4, LOWEST, HIGHEST}) {
            Asker a = Asker.busy();
            String before = a.seen();
            due("image(" + k + ")", a.words.image(k), -1);
            a.dueSame("image(" + k + ")", before);
            due("no image was made of it", a.words.back(k), -1);
            due("nor another", a.words.back(0), -1);
            due("new: image(" + k + ")", new LastWords().image(k), -1);
        }
    }

    private static void refusedBack(Asker a, int k) {
        String before = a.seen();
        due("back(" + k + ")", a.words.back(k), -1);
        a.dueSame("back(" + k + ")", before);
    }

    private static void neverMade() {
        for (int k = 0; k < 4; k++) {
            refusedBack(new Asker(), k);
            if (k != 2) {
                refusedBack(Asker.busy(), k);
            }
        }
        due("the one that was made", Asker.busy().words.back(2), 2);
    }

    private static void noSuchImageToGoTo() {
        for (int k : new int[] {-1, 4, LOWEST, HIGHEST}) {
            refusedBack(Asker.busy(), k);
            refusedBack(new Asker(), k);
        }
    }
}

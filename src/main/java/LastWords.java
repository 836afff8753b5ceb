import java.util.Arrays;

/**
 * Quarrels that end with an organ's tune: corners and rules told in a small language, quarrels spoken
 * or run by rules, and questions about who can have the last word.
 */
public final class LastWords {
    public static final int NONE = -1;

    private static final int REFUSED = -2;
    private static final int NO_BRIBE = -100;
    private static final int BRIBE_REFUSED = -200;
    private static final int TAPE_SIZE = 400;
    private static final int MOST_RULES = 6;
    private static final int MOST_IMAGES = 4;
    private static final int MOST_TUNES = 4;
    private static final int MOST_WORDS = 4;
    private static final int MOST_WAITING = 6;
    private static final int MOST_PENNIES = 7;
    private static final int MOST_LEFT = 200;
    private static final int MOST_BRIBE = 20;
    private static final int THROW = 4;

    private final int[] tape = new int[TAPE_SIZE];
    private int tapeLength;
    private final Rule[] rules = new Rule[MOST_RULES];
    private int ruleCount;
    private final State now = new State();
    private final State[] images = new State[MOST_IMAGES];
    private final Corner told = new Corner();
    private final Quarrel trial = new Quarrel();
    private final BestPlay bestPlay = new BestPlay();
    private final PlayCounter playCounter = new PlayCounter();
    private final Lot lot = new Lot();
    private final long[] startWins = new long[MOST_TUNES];

    public LastWords() {
    }

    public int feed(int a, int b, int c, int d, int e) {
        if (tapeLength + 20 > TAPE_SIZE) {
            return NONE;
        }
        putBytes(a);
        putBytes(b);
        putBytes(c);
        putBytes(d);
        putBytes(e);
        return tapeLength;
    }

    private void putBytes(int number) {
        for (int shift = 24; shift >= 0; shift -= 8) {
            if (tapeLength < TAPE_SIZE) {
                tape[tapeLength] = (number >>> shift) & 255;
                tapeLength++;
            }
        }
    }

    public int end(int n) {
        if (n < 0 || n > tapeLength) {
            return NONE;
        }
        tapeLength = n;
        return n;
    }

    public int corner() {
        Reader in = new Reader(tape, tapeLength);
        // The document calls the tape empty then before it tells the answers: a text with a fault is used up too.
        tapeLength = 0;
        int fault = new CornerReader(in, told).read();
        if (fault != 0) {
            return REFUSED - fault;
        }
        now.settleIn(told);
        return told.tunes;
    }

    public int rule() {
        if (ruleCount >= MOST_RULES) {
            return NONE;
        }
        if (rules[ruleCount] == null) {
            rules[ruleCount] = new Rule();
        }
        Reader in = new Reader(tape, tapeLength);
        tapeLength = 0;
        int fault = new RuleReader(in, rules[ruleCount]).read();
        if (fault != 0) {
            return REFUSED - fault;
        }
        ruleCount++;
        return ruleCount - 1;
    }

    public int begin(int tune, int first) {
        if (!now.corner.hasTune(tune) || !isSide(first)) {
            return NONE;
        }
        now.quarrel.start(now.corner, tune, first);
        now.noteWinner();
        return now.quarrel.left;
    }

    public int speak(int word) {
        if (!now.corner.hasWord(word)) {
            return NONE;
        }
        if (!now.quarrel.maySay(now.corner, word)) {
            return REFUSED;
        }
        now.quarrel.say(now.corner, word);
        now.noteWinner();
        return now.quarrel.left;
    }

    public int toss() {
        if (!now.quarrel.mayThrow()) {
            return REFUSED;
        }
        now.quarrel.throwPenny(now.corner);
        now.noteWinner();
        return now.quarrel.left;
    }

    public int still() {
        if (!now.quarrel.goesOn) {
            return REFUSED;
        }
        now.quarrel.beStill();
        now.noteWinner();
        return now.quarrel.winner;
    }

    public int run(int one, int other) {
        if (!now.quarrel.goesOn || !isRuleOrNone(one) || !isRuleOrNone(other)) {
            return REFUSED;
        }
        now.quarrel.goByRules(now.corner, ruleAt(one), ruleAt(other));
        now.noteWinner();
        return now.quarrel.winner;
    }

    public int would(int one, int other, int what) {
        if (!now.quarrel.goesOn || !isRuleOrNone(one) || !isRuleOrNone(other)) {
            return REFUSED;
        }
        if (what < 0 || what > 3) {
            return REFUSED;
        }
        trial.copyFrom(now.quarrel);
        trial.goByRules(now.corner, ruleAt(one), ruleAt(other));
        switch (what) {
            case 0:
                return trial.winner;
            case 1:
                return trial.moves - now.quarrel.moves;
            case 2:
                return trial.hat - now.quarrel.hat;
            default:
                return trial.left;
        }
    }

    public int side(int side, int what) {
        if (!isSide(side) || !hasCorner()) {
            return NONE;
        }
        switch (what) {
            case 0:
                return now.quarrel.purse[side];
            case 1:
                return now.quarrel.last[side];
            case 2:
                return now.quarrel.said[side];
            case 3:
                return now.won[side];
            default:
                return NONE;
        }
    }

    public int fill(int side, int n) {
        if (!isSide(side) || !isPurse(n) || !hasCorner()) {
            return NONE;
        }
        int before = now.quarrel.purse[side];
        now.quarrel.purse[side] = n;
        if (now.quarrel.goesOn) {
            now.quarrel.endIfStuck(now.corner);
            now.noteWinner();
        }
        return before;
    }

    public int have() {
        Quarrel quarrel = now.quarrel;
        if (!quarrel.goesOn) {
            return REFUSED;
        }
        return turnHas(quarrel.verse, quarrel.left) ? quarrel.turn : 1 - quarrel.turn;
    }

    /** Whether the SIDE whose turn it is can HAVE it, if the VERSE and what is left of it were these. */
    private boolean turnHas(int verse, int left) {
        Quarrel quarrel = now.quarrel;
        int mine = quarrel.myPurse();
        int theirs = quarrel.theirPurse();
        long wins = bestPlay.winners(now.corner, verse, left, quarrel.lasts(), mine + theirs);
        return BestPlay.holds(wins, mine, theirs);
    }

    public int move() {
        return now.quarrel.goesOn ? bestPlay.firstMove(now.corner, now.quarrel) : REFUSED;
    }

    public int enough(int side) {
        Quarrel quarrel = now.quarrel;
        if (!isSide(side) || !quarrel.goesOn) {
            return REFUSED;
        }
        int theirs = quarrel.purse[1 - side];
        long wins = bestPlay.winners(now.corner, quarrel.verse, quarrel.left, quarrel.lasts(),
                theirs + MOST_PENNIES);
        for (int mine = 0; mine <= MOST_PENNIES; mine++) {
            if (hasWith(wins, side, mine, theirs)) {
                return mine;
            }
        }
        return NONE;
    }

    /** Whether a SIDE is among the winners, with its own purse and the other one's. */
    private boolean hasWith(long wins, int side, int own, int others) {
        if (side == now.quarrel.turn) {
            return BestPlay.holds(wins, own, others);
        }
        return !BestPlay.holds(wins, others, own);
    }

    public int hidden(int side, int m, int part) {
        Quarrel quarrel = now.quarrel;
        if (!isSide(side) || !isPurse(m) || part < 0 || part > 1 || !quarrel.goesOn) {
            return REFUSED;
        }
        int own = quarrel.purse[side];
        long wins = bestPlay.winners(now.corner, quarrel.verse, quarrel.left, quarrel.lasts(), own + m);
        int good = 0;
        for (int others = 0; others <= m; others++) {
            if (hasWith(wins, side, own, others)) {
                good++;
            }
        }
        int divisor = commonDivisor(good, m + 1);
        int shown = part == 0 ? good : m + 1;
        return divisor > 0 ? shown / divisor : REFUSED;
    }

    /** The greatest number that divides both; the second is at least 1, and both are 8 at most. */
    private static int commonDivisor(int one, int other) {
        int found = 1;
        for (int divisor = 2; divisor <= other; divisor++) {
            if (one % divisor == 0 && other % divisor == 0) {
                found = divisor;
            }
        }
        return found;
    }

    public int fair(int what) {
        if (what < 0 || what > 3 || !hasCorner()) {
            return NONE;
        }
        int zero = now.quarrel.purse[0];
        int one = now.quarrel.purse[1];
        int found = 0;
        for (int tune = 0; tune < now.corner.tunes; tune++) {
            long wins = startWinners(tune, zero + one);
            boolean zeroWhenFirst = BestPlay.holds(wins, zero, one);
            boolean oneWhenFirst = BestPlay.holds(wins, one, zero);
            if (fairness(zeroWhenFirst, oneWhenFirst) == what) {
                found |= 1 << tune;
            }
        }
        return found;
    }

    private static int fairness(boolean zeroWhenFirst, boolean oneWhenFirst) {
        if (zeroWhenFirst) {
            return oneWhenFirst ? 0 : 1;
        }
        return oneWhenFirst ? 2 : 3;
    }

    /** The purses with which the first speaker of a new QUARREL can HAVE it. */
    private long startWinners(int tune, int pennies) {
        int verse = now.corner.verseOf(tune);
        return bestPlay.winners(now.corner, verse, verse, 0, pennies);
    }

    public int bribe(int side) {
        if (!isSide(side) || !now.quarrel.goesOn) {
            return BRIBE_REFUSED;
        }
        for (int size = 0; size <= MOST_BRIBE; size++) {
            if (bribedHas(side, -size)) {
                return -size;
            }
            if (size > 0 && bribedHas(side, size)) {
                return size;
            }
        }
        return NO_BRIBE;
    }

    private boolean bribedHas(int side, int longer) {
        int verse = Math.max(1, now.quarrel.verse + longer);
        int left = Math.max(0, Math.min(MOST_LEFT, now.quarrel.left + longer));
        return turnHas(verse, left) == (side == now.quarrel.turn);
    }

    public int plays(int n, int h, int side) {
        if (n < 0 || n > PlayCounter.MOST_MOVES || h < 0 || h > 2 * MOST_PENNIES || !isSide(side)) {
            return REFUSED;
        }
        if (!now.quarrel.goesOn) {
            return REFUSED;
        }
        return playCounter.total(now.corner, now.quarrel, n, h, side);
    }

    public int waits(int beats, int worth) {
        if (beats == NONE) {
            now.organ.waiting = 0;
            return 0;
        }
        if (!hasCorner() || beats < 1 || beats > 999 || worth < 0 || worth > 99 || !now.organ.add(beats, worth)) {
            return REFUSED;
        }
        return now.organ.waiting;
    }

    public int order(int what) {
        if (what < 0 || what > MOST_WAITING) {
            return NONE;
        }
        now.organ.arrange();
        if (what == 0) {
            return now.organ.leastSum();
        }
        return what <= now.organ.waiting ? now.organ.places[what - 1] : REFUSED;
    }

    public int seed(int x) {
        if (x < 0) {
            return NONE;
        }
        int before = now.x;
        now.x = x;
        return before;
    }

    public int lots(int one, int other, int m, int p, int what) {
        boolean byBestPlay = one == NONE && other == NONE;
        if (!byBestPlay && (ruleAt(one) == null || ruleAt(other) == null)) {
            return NONE;
        }
        if (m < 1 || m > 50 || !isPurse(p) || what < 0 || what > 2 || !hasCorner()) {
            return NONE;
        }
        lot.x = now.x;
        if (byBestPlay) {
            return what == 2 ? 0 : lotsByBestPlay(m, p, what);
        }
        return lotsByRules(ruleAt(one), ruleAt(other), m, p, what);
    }

    private int lotsByBestPlay(int m, int p, int side) {
        for (int tune = 0; tune < now.corner.tunes && tune < MOST_TUNES; tune++) {
            startWins[tune] = startWinners(tune, 2 * p);
        }
        int found = 0;
        for (int i = 0; i < m; i++) {
            lot.draw(now.corner.tunes, p);
            int mine = lot.first == 0 ? lot.purseOfZero : lot.purseOfOne;
            int theirs = lot.first == 0 ? lot.purseOfOne : lot.purseOfZero;
            boolean firstHas = lot.tune < MOST_TUNES && BestPlay.holds(startWins[lot.tune], mine, theirs);
            if (firstHas == (lot.first == side)) {
                found++;
            }
        }
        return found;
    }

    private int lotsByRules(Rule one, Rule other, int m, int p, int what) {
        int found = 0;
        for (int i = 0; i < m; i++) {
            lot.draw(now.corner.tunes, p);
            trial.hat = 0;
            trial.purse[0] = lot.purseOfZero;
            trial.purse[1] = lot.purseOfOne;
            trial.start(now.corner, lot.tune, lot.first);
            trial.goByRules(now.corner, one, other);
            if (what == 2) {
                found += trial.hat;
            } else if (trial.winner == what) {
                found++;
            }
        }
        return found;
    }

    public int count(int what) {
        Quarrel quarrel = now.quarrel;
        switch (what) {
            case 0:
                return now.corner.tunes;
            case 1:
                return now.corner.words;
            case 2:
                return ruleCount;
            case 3:
                return quarrel.goesOn ? quarrel.left : 0;
            case 4:
                return quarrel.goesOn ? quarrel.turn : NONE;
            case 5:
                return quarrel.goesOn ? quarrel.verse : 0;
            case 6:
                return quarrel.hat;
            case 7:
                return quarrel.goesOn ? quarrel.moves : 0;
            case 8:
                return now.allWon();
            case 9:
                return now.organ.waiting;
            case 10:
                return now.x;
            case 11:
                return tapeLength;
            default:
                return NONE;
        }
    }

    public int image(int k) {
        if (k < 0 || k >= MOST_IMAGES) {
            return NONE;
        }
        if (images[k] == null) {
            images[k] = new State();
        }
        images[k].copyFrom(now);
        return now.allWon();
    }

    public int back(int k) {
        if (k < 0 || k >= MOST_IMAGES || images[k] == null) {
            return NONE;
        }
        now.copyFrom(images[k]);
        return now.allWon();
    }

    private Rule ruleAt(int number) {
        return number >= 0 && number < ruleCount && number < MOST_RULES ? rules[number] : null;
    }

    private boolean isRuleOrNone(int number) {
        return number == NONE || ruleAt(number) != null;
    }

    private boolean hasCorner() {
        return now.corner.tunes > 0;
    }

    private static boolean isSide(int side) {
        return side == 0 || side == 1;
    }

    private static boolean isPurse(int pennies) {
        return pennies >= 0 && pennies <= MOST_PENNIES;
    }

    /** What a corner's text tells; nothing that happens there changes it. */
    private static final class Corner {
        private static final int TOO_LONG = 1000;

        int tunes;
        final int[] verses = new int[MOST_TUNES];
        int words;
        final int[] beats = new int[MOST_WORDS];
        int again;
        final int[] purses = new int[2];

        void copyFrom(Corner other) {
            tunes = other.tunes;
            words = other.words;
            again = other.again;
            System.arraycopy(other.verses, 0, verses, 0, MOST_TUNES);
            System.arraycopy(other.beats, 0, beats, 0, MOST_WORDS);
            System.arraycopy(other.purses, 0, purses, 0, 2);
        }

        boolean hasTune(int tune) {
            return tune >= 0 && tune < tunes && tune < MOST_TUNES;
        }

        boolean hasWord(int word) {
            return word >= 0 && word < words && word < MOST_WORDS;
        }

        int verseOf(int tune) {
            return hasTune(tune) ? verses[tune] : 1;
        }

        /** The BEATS that a WORD takes for who said another, or this, last; one that is not told fits nowhere. */
        int cost(int word, int last) {
            if (word < 0 || word >= words || word >= MOST_WORDS) {
                return TOO_LONG;
            }
            return word == last ? beats[word] + again : beats[word];
        }

        boolean anyWordFits(int last, int left) {
            for (int word = 0; word < words; word++) {
                if (cost(word, last) <= left) {
                    return true;
                }
            }
            return false;
        }
    }

    /** Purses, hat, and the QUARREL that goes on or was the last to. */
    private static final class Quarrel {
        private static final int NOTHING_SAID = 9;
        // Beats run out long before: 200 left and 14 pennies of 72 beats each make some 1,200 moves.
        private static final int MOVES_BOUND = 10000;

        boolean goesOn;
        int verse = 1;
        int left;
        int turn;
        int moves;
        int hat;
        int winner = NONE;
        final int[] purse = new int[2];
        final int[] last = {NONE, NONE};
        final int[] said = new int[2];

        void copyFrom(Quarrel other) {
            goesOn = other.goesOn;
            verse = other.verse;
            left = other.left;
            turn = other.turn;
            moves = other.moves;
            hat = other.hat;
            winner = other.winner;
            System.arraycopy(other.purse, 0, purse, 0, 2);
            System.arraycopy(other.last, 0, last, 0, 2);
            System.arraycopy(other.said, 0, said, 0, 2);
        }

        void clear(Corner corner) {
            goesOn = false;
            hat = 0;
            System.arraycopy(corner.purses, 0, purse, 0, 2);
            forgetWords();
        }

        private void forgetWords() {
            moves = 0;
            winner = NONE;
            for (int side = 0; side < 2; side++) {
                last[side] = NONE;
                said[side] = 0;
            }
        }

        void start(Corner corner, int tune, int first) {
            forgetWords();
            goesOn = true;
            verse = corner.verseOf(tune);
            left = verse;
            turn = first == 0 ? 0 : 1;
            endIfStuck(corner);
        }

        int myPurse() {
            return purse[turn];
        }

        int theirPurse() {
            return purse[1 - turn];
        }

        /** What each SIDE said last, 0 for nothing, mine 8 times: as BestPlay and PlayCounter take it. */
        int lasts() {
            return 8 * (last[turn] + 1) + last[1 - turn] + 1;
        }

        boolean maySay(Corner corner, int word) {
            return goesOn && corner.cost(word, last[turn]) <= left;
        }

        boolean mayThrow() {
            return goesOn && purse[turn] > 0 && left + verse <= MOST_LEFT;
        }

        void say(Corner corner, int word) {
            left -= corner.cost(word, last[turn]);
            last[turn] = word;
            said[turn]++;
            moves++;
            turn = 1 - turn;
            endIfStuck(corner);
        }

        void throwPenny(Corner corner) {
            purse[turn]--;
            hat++;
            left += verse;
            moves++;
            endIfStuck(corner);
        }

        void beStill() {
            moves++;
            finish();
        }

        void endIfStuck(Corner corner) {
            if (!mayThrow() && !corner.anyWordFits(last[turn], left)) {
                finish();
            }
        }

        /** Who spoke last handed the turn over, and throwing keeps it: so the winner is always the other SIDE. */
        private void finish() {
            goesOn = false;
            winner = 1 - turn;
        }

        /** BY RULES till it is over; null: that SIDE is STILL. */
        void goByRules(Corner corner, Rule one, Rule other) {
            for (int i = 0; i < MOVES_BOUND && goesOn; i++) {
                Rule rule = turn == 0 ? one : other;
                int choice = rule == null ? NONE : rule.choose(corner, this);
                if (choice == NONE) {
                    beStill();
                } else if (choice == THROW) {
                    throwPenny(corner);
                } else {
                    say(corner, choice);
                }
            }
        }

        long ownWord(int code) {
            switch (code) {
                case Rule.SIDE:
                    return turn;
                case Rule.LEFT:
                    return left;
                case Rule.VERSE:
                    return verse;
                case Rule.MINE:
                    return purse[turn];
                case Rule.THEIRS:
                    return purse[1 - turn];
                case Rule.LAST:
                    return last[turn] == NONE ? NOTHING_SAID : last[turn];
                case Rule.HEARD:
                    return last[1 - turn] == NONE ? NOTHING_SAID : last[1 - turn];
                case Rule.SAID:
                    return said[turn];
                default:
                    return moves;
            }
        }
    }

    /** The QUARRELS that wait, and the order in which they should come. */
    private static final class Organ {
        int waiting;
        final int[] beats = new int[MOST_WAITING];
        final int[] worth = new int[MOST_WAITING];
        final int[] places = new int[MOST_WAITING];

        void copyFrom(Organ other) {
            waiting = other.waiting;
            System.arraycopy(other.beats, 0, beats, 0, MOST_WAITING);
            System.arraycopy(other.worth, 0, worth, 0, MOST_WAITING);
        }

        boolean add(int beatsOfIt, int worthOfIt) {
            if (waiting < 0 || waiting >= MOST_WAITING) {
                return false;
            }
            beats[waiting] = beatsOfIt;
            worth[waiting] = worthOfIt;
            waiting++;
            return true;
        }

        /**
         * Sorted by worth for each beat, the dearest first: a neighbour of less worth a beat always gains by
         * standing back, so no other order but among equals is as good; equals stay by number.
         */
        void arrange() {
            for (int next = 0; next < waiting && next < MOST_WAITING; next++) {
                int place = next;
                for (; place > 0 && isDearer(next, places[place - 1]); place--) {
                    places[place] = places[place - 1];
                }
                places[place] = next;
            }
        }

        private boolean isDearer(int one, int other) {
            return worth[one] * beats[other] > worth[other] * beats[one];
        }

        int leastSum() {
            int goneBy = 0;
            int sum = 0;
            for (int place = 0; place < waiting && place < MOST_WAITING; place++) {
                goneBy += beats[places[place]];
                sum += worth[places[place]] * goneBy;
            }
            return sum;
        }
    }

    /** All that an IMAGE keeps. */
    private static final class State {
        final Corner corner = new Corner();
        final Quarrel quarrel = new Quarrel();
        final Organ organ = new Organ();
        final int[] won = new int[2];
        int x;

        void copyFrom(State other) {
            corner.copyFrom(other.corner);
            quarrel.copyFrom(other.quarrel);
            organ.copyFrom(other.organ);
            won[0] = other.won[0];
            won[1] = other.won[1];
            x = other.x;
        }

        void settleIn(Corner told) {
            corner.copyFrom(told);
            quarrel.clear(told);
            organ.waiting = 0;
            won[0] = 0;
            won[1] = 0;
        }

        /** Called behind whatever may have ended the QUARREL that went on. */
        void noteWinner() {
            if (!quarrel.goesOn && (quarrel.winner == 0 || quarrel.winner == 1)) {
                won[quarrel.winner]++;
            }
        }

        int allWon() {
            return won[0] + won[1];
        }
    }

    /** A QUARREL made of DRAWS. */
    private static final class Lot {
        int x;
        int tune;
        int first;
        int purseOfZero;
        int purseOfOne;

        void draw(int tunes, int p) {
            tune = drawBelow(tunes);
            first = drawBelow(2);
            purseOfZero = drawBelow(p + 1);
            purseOfOne = drawBelow(p + 1);
        }

        private int drawBelow(int bound) {
            x = (int) ((x * 1103515245L + 12345L) & 2147483647L);
            return bound > 0 ? (x / 65536) % bound : 0;
        }
    }

    /** A text's tokens, the one ahead being looked at, and its first FAULT. */
    private static final class Reader {
        static final int END = 0;
        static final int NAME = 1;
        static final int NUMBER = 2;
        static final int SIGN = 3;

        static final int MISPLACED = 0;
        static final int BAD_NUMBER = 1;
        static final int TOO_DEEP = 2;
        static final int TOO_LARGE = 3;
        static final int TOO_MANY = 4;

        /** Added to the byte of a sign that a = follows, as one sign of both. */
        static final int OR_EQUAL = 256;

        private static final int MOST_DIGITS = 5;

        private final int[] text;
        private final int length;
        private int start;
        private int stop;
        int kind;
        int sign;
        /** The NUMBER ahead; NONE if it has too many digits. */
        int number;
        int fault;

        Reader(int[] text, int length) {
            this.text = text;
            this.length = Math.min(length, text.length);
        }

        /** Goes on to the next token. */
        void advance() {
            start = stop;
            while (start < length && text[start] == ' ') {
                start++;
            }
            stop = start;
            if (start >= length) {
                kind = END;
            } else if (isLetter(text[start])) {
                passName();
            } else if (isDigit(text[start])) {
                passNumber();
            } else {
                passSign(text[start]);
            }
        }

        private void passName() {
            kind = NAME;
            while (stop < length && isLetter(text[stop])) {
                stop++;
            }
        }

        private void passNumber() {
            kind = NUMBER;
            number = 0;
            while (stop < length && isDigit(text[stop])) {
                if (stop - start < MOST_DIGITS) {
                    number = number * 10 + text[stop] - '0';
                } else {
                    number = NONE;
                }
                stop++;
            }
        }

        private void passSign(int first) {
            kind = SIGN;
            sign = first;
            stop = start + 1;
            if ((first == '<' || first == '>') && stop < length && text[stop] == '=') {
                sign = first + OR_EQUAL;
                stop++;
            }
        }

        private static boolean isLetter(int first) {
            return first >= 'a' && first <= 'z';
        }

        private static boolean isDigit(int first) {
            return first >= '0' && first <= '9';
        }

        /** A FAULT of the token ahead; only the first one counts. */
        void fail(int faultKind) {
            if (fault == 0) {
                fault = 1 + 8 * start + faultKind;
            }
        }

        boolean isSign(int wanted) {
            return kind == SIGN && sign == wanted;
        }

        /** Which of these names, set apart by blanks, is ahead: 0 for the first; NONE if none is. */
        int nameAmong(String names) {
            if (kind != NAME) {
                return NONE;
            }
            int which = 0;
            int alike = 0;
            for (int i = 0; i < names.length(); i++) {
                if (names.charAt(i) == ' ') {
                    if (alike == stop - start) {
                        return which;
                    }
                    which++;
                    alike = 0;
                } else if (alike >= 0 && start + alike < stop && text[start + alike] == names.charAt(i)) {
                    alike++;
                } else {
                    alike = NONE;
                }
            }
            return alike == stop - start ? which : NONE;
        }

        /** The NUMBER ahead, gone past, or NONE and its FAULT. */
        int takeNumber(int least, int most) {
            if (kind != NUMBER) {
                fail(MISPLACED);
                return NONE;
            }
            if (number < least || number > most) {
                fail(BAD_NUMBER);
                return NONE;
            }
            int taken = number;
            advance();
            return taken;
        }

        /** Behind a CLAUSE: goes past the ; to the next one, if the text goes on. */
        boolean goesOnToClause() {
            if (fault != 0 || kind == END) {
                return false;
            }
            if (!isSign(';')) {
                fail(MISPLACED);
                return false;
            }
            advance();
            return true;
        }
    }

    private static final class CornerReader {
        private static final int MOST_CLAUSES = 16;

        private final Reader in;
        private final Corner corner;

        CornerReader(Reader in, Corner corner) {
            this.in = in;
            this.corner = corner;
        }

        /** The text's FAULT; 0 if it has none, and then the corner is as told. */
        int read() {
            corner.tunes = 0;
            corner.words = 0;
            corner.again = NONE;
            corner.purses[0] = 0;
            corner.purses[1] = 0;
            in.advance();
            boolean goesOn = true;
            for (int clauses = 0; clauses <= MOST_CLAUSES && goesOn; clauses++) {
                readClause(clauses == MOST_CLAUSES);
                goesOn = in.goesOnToClause();
            }
            if (corner.tunes == 0 || corner.words == 0) {
                in.fail(Reader.MISPLACED);
            }
            corner.again = Math.max(0, corner.again);
            return in.fault;
        }

        private void readClause(boolean isTooMany) {
            switch (in.nameAmong("tune word purse again")) {
                case 0:
                    readTune(isTooMany);
                    break;
                case 1:
                    readWord(isTooMany);
                    break;
                case 2:
                    readPurse(isTooMany);
                    break;
                case 3:
                    readAgain(isTooMany);
                    break;
                default:
                    in.fail(Reader.MISPLACED);
                    break;
            }
        }

        private void readTune(boolean isTooMany) {
            if (isTooMany || corner.tunes >= MOST_TUNES) {
                in.fail(Reader.TOO_MANY);
                return;
            }
            in.advance();
            int bars = in.takeNumber(1, 9);
            int beats = in.takeNumber(1, 8);
            if (in.fault == 0) {
                corner.verses[corner.tunes] = bars * beats;
                corner.tunes++;
            }
        }

        private void readWord(boolean isTooMany) {
            if (isTooMany || corner.words >= MOST_WORDS) {
                in.fail(Reader.TOO_MANY);
                return;
            }
            in.advance();
            int beats = in.takeNumber(1, 9);
            if (in.fault == 0) {
                corner.beats[corner.words] = beats;
                corner.words++;
            }
        }

        private void readPurse(boolean isTooMany) {
            if (isTooMany) {
                in.fail(Reader.TOO_MANY);
                return;
            }
            in.advance();
            int side = in.takeNumber(0, 1);
            int pennies = in.takeNumber(0, MOST_PENNIES);
            if (in.fault == 0 && isSide(side)) {
                corner.purses[side] = pennies;
            }
        }

        private void readAgain(boolean isTooMany) {
            if (isTooMany || corner.again != NONE) {
                in.fail(Reader.TOO_MANY);
                return;
            }
            in.advance();
            corner.again = in.takeNumber(0, 9);
        }
    }

    /** A rule's clauses; their tests stand one behind the other in one row, values before their operators. */
    private static final class Rule {
        static final int SIDE = -1;
        static final int LEFT = -2;
        static final int VERSE = -3;
        static final int MINE = -4;
        static final int THEIRS = -5;
        static final int LAST = -6;
        static final int HEARD = -7;
        static final int SAID = -8;
        static final int MOVES = -9;
        static final int ADD = -10;
        static final int SUBTRACT = -11;
        static final int MULTIPLY = -12;
        static final int DIVIDE = -13;
        static final int LESS = -14;
        static final int AT_MOST = -15;
        static final int EQUAL = -16;
        static final int AT_LEAST = -17;
        static final int MORE = -18;
        static final int NOT = -19;
        static final int AND = -20;
        static final int OR = -21;

        static final int MOST_CLAUSES = 12;
        static final int MOST_NODES = 60;

        int clauses;
        final int[] does = new int[MOST_CLAUSES];
        final int[] testStops = new int[MOST_CLAUSES];
        // Every code has a byte of the text of its own, or more.
        private final int[] codes = new int[TAPE_SIZE];
        private int size;
        private final long[] stack = new long[MOST_NODES];

        void clear() {
            clauses = 0;
            size = 0;
        }

        void put(int code) {
            if (size >= 0 && size < TAPE_SIZE) {
                codes[size] = code;
                size++;
            }
        }

        void addClause(int deed) {
            if (clauses >= 0 && clauses < MOST_CLAUSES) {
                does[clauses] = deed;
                testStops[clauses] = size;
                clauses++;
            }
        }

        /** The WORD to say, THROW, or NONE to be STILL. */
        int choose(Corner corner, Quarrel quarrel) {
            int from = 0;
            for (int i = 0; i < clauses && i < MOST_CLAUSES; i++) {
                if (mayDo(does[i], corner, quarrel) && holds(from, testStops[i], quarrel)) {
                    return does[i];
                }
                from = testStops[i];
            }
            return NONE;
        }

        private static boolean mayDo(int deed, Corner corner, Quarrel quarrel) {
            if (deed == NONE) {
                return true;
            }
            return deed == THROW ? quarrel.mayThrow() : quarrel.maySay(corner, deed);
        }

        private boolean holds(int from, int to, Quarrel quarrel) {
            int height = 0;
            for (int i = from; i < to && i < TAPE_SIZE; i++) {
                int code = codes[i];
                if (code >= MOVES) {
                    if (height < MOST_NODES) {
                        stack[height] = code >= 0 ? code : quarrel.ownWord(code);
                        height++;
                    }
                } else if (code == NOT) {
                    if (height > 0) {
                        stack[height - 1] = 1 - stack[height - 1];
                    }
                } else if (height > 1) {
                    height--;
                    stack[height - 1] = joined(code, stack[height - 1], stack[height]);
                }
            }
            return height == 0 || stack[0] != 0;
        }

        private static long joined(int code, long one, long other) {
            switch (code) {
                case ADD:
                    return one + other;
                case SUBTRACT:
                    return one - other;
                case MULTIPLY:
                    return one * other;
                case DIVIDE:
                    return other == 0 ? 0 : one / other;
                case AND:
                    return one & other;
                case OR:
                    return one | other;
                default:
                    return compares(code, one, other) ? 1 : 0;
            }
        }

        private static boolean compares(int code, long one, long other) {
            switch (code) {
                case LESS:
                    return one < other;
                case AT_MOST:
                    return one <= other;
                case EQUAL:
                    return one == other;
                case AT_LEAST:
                    return one >= other;
                default:
                    return one > other;
            }
        }
    }

    private static final class RuleReader {
        private static final int MOST_DEPTH = 10;
        private static final int NO_CODE = -100;
        private static final String OWN_WORDS = "side left verse mine theirs last heard said moves";

        private final Reader in;
        private final Rule rule;
        private int nodes;

        RuleReader(Reader in, Rule rule) {
            this.in = in;
            this.rule = rule;
        }

        /** The text's FAULT; 0 if it has none, and then the rule is as told. */
        int read() {
            rule.clear();
            in.advance();
            boolean goesOn = true;
            for (int clauses = 0; clauses <= Rule.MOST_CLAUSES && goesOn; clauses++) {
                readClause(clauses == Rule.MOST_CLAUSES);
                goesOn = in.goesOnToClause();
            }
            return in.fault;
        }

        private void readClause(boolean isTooMany) {
            int name = in.nameAmong("say throw still");
            if (name == NONE) {
                in.fail(Reader.MISPLACED);
            } else if (isTooMany) {
                in.fail(Reader.TOO_MANY);
            } else {
                in.advance();
                int deed = name == 1 ? THROW : NONE;
                if (name == 0) {
                    deed = in.takeNumber(0, MOST_WORDS - 1);
                }
                if (in.fault == 0 && in.nameAmong("if") == 0) {
                    in.advance();
                    readTest(0);
                }
                rule.addClause(deed);
            }
        }

        /** FACTS of a PART are joined at once, a PART to those before it when the next one begins. */
        private void readTest(int depth) {
            boolean isAndOpen = false;
            boolean isOrOpen = false;
            for (int i = 0; i < TAPE_SIZE && in.fault == 0; i++) {
                readFact(depth);
                if (isAndOpen) {
                    rule.put(Rule.AND);
                }
                int joint = in.nameAmong("and or");
                isAndOpen = joint == 0;
                if (!isAndOpen) {
                    if (isOrOpen) {
                        rule.put(Rule.OR);
                    }
                    isOrOpen = joint == 1;
                }
                if (!isAndOpen && !isOrOpen) {
                    return;
                }
                in.advance();
            }
        }

        private void readFact(int depth) {
            boolean isNot = in.nameAmong("not") == 0;
            if (isNot || in.isSign('[')) {
                readNested(depth, isNot);
                return;
            }
            readSum();
            int code = comparisonAhead();
            if (code == NO_CODE) {
                in.fail(Reader.MISPLACED);
            } else if (isRoomForNode()) {
                in.advance();
                readSum();
                rule.put(code);
            }
        }

        private void readNested(int depth, boolean isNot) {
            if (depth >= MOST_DEPTH) {
                in.fail(Reader.TOO_DEEP);
                return;
            }
            in.advance();
            if (isNot) {
                readFact(depth + 1);
                rule.put(Rule.NOT);
                return;
            }
            readTest(depth + 1);
            if (in.isSign(']')) {
                in.advance();
            } else {
                in.fail(Reader.MISPLACED);
            }
        }

        private int comparisonAhead() {
            switch (in.kind == Reader.SIGN ? in.sign : NONE) {
                case '<':
                    return Rule.LESS;
                case '<' + Reader.OR_EQUAL:
                    return Rule.AT_MOST;
                case '=':
                    return Rule.EQUAL;
                case '>' + Reader.OR_EQUAL:
                    return Rule.AT_LEAST;
                case '>':
                    return Rule.MORE;
                default:
                    return NO_CODE;
            }
        }

        /** VALUES of a TERM are joined at once, a TERM to those before it when the next one begins. */
        private void readSum() {
            int timesOpen = NO_CODE;
            int plusOpen = NO_CODE;
            for (int i = 0; i < TAPE_SIZE && in.fault == 0; i++) {
                rule.put(valueAhead());
                in.advance();
                if (timesOpen != NO_CODE) {
                    rule.put(timesOpen);
                }
                timesOpen = codeOfSign('*', Rule.MULTIPLY, '/', Rule.DIVIDE);
                if (timesOpen == NO_CODE) {
                    if (plusOpen != NO_CODE) {
                        rule.put(plusOpen);
                    }
                    plusOpen = codeOfSign('+', Rule.ADD, '-', Rule.SUBTRACT);
                }
                if (timesOpen == NO_CODE && plusOpen == NO_CODE) {
                    return;
                }
                in.advance();
            }
        }

        private int codeOfSign(int sign, int code, int otherSign, int otherCode) {
            if (in.isSign(sign)) {
                return code;
            }
            return in.isSign(otherSign) ? otherCode : NO_CODE;
        }

        /** The code of the VALUE ahead; of one place the least FAULT comes first. */
        private int valueAhead() {
            int own = in.nameAmong(OWN_WORDS);
            if (in.kind != Reader.NUMBER && own == NONE) {
                in.fail(Reader.MISPLACED);
                return NO_CODE;
            }
            if (in.kind == Reader.NUMBER && in.number == NONE) {
                in.fail(Reader.BAD_NUMBER);
                return NO_CODE;
            }
            if (!isRoomForNode()) {
                return NO_CODE;
            }
            return own == NONE ? in.number : Rule.SIDE - own;
        }

        private boolean isRoomForNode() {
            nodes++;
            if (nodes > Rule.MOST_NODES) {
                in.fail(Reader.TOO_LARGE);
                return false;
            }
            return true;
        }
    }

    /**
     * Who can HAVE it, for all purses at once. To be STILL always loses, so who moves can HAVE it just if some
     * WORD leaves the other one without, or a thrown penny leaves himself with it. Throwing keeps the sum of
     * the BEATS left and a VERSE for each penny, speaking makes it less: so sums are gone through upwards. Of
     * one sum, a row of 64 bits tells the purses: bit 8 * theirs + mine.
     */
    private static final class BestPlay {
        // A WORD takes 18 BEATS at most: so far back the sums are looked up.
        private static final int SUMS_KEPT = 32;
        private static final int LASTS = MOST_WORDS + 1;
        private static final int PENNIES_IN_ALL = 2 * MOST_PENNIES;
        private static final long NOT_FIRST = 0xFEFEFEFEFEFEFEFEL;
        private static final long NOT_FIRST_TWO = 0xFCFCFCFCFCFCFCFCL;
        private static final long NOT_FIRST_FOUR = 0xF0F0F0F0F0F0F0F0L;

        private final long[] atMost = new long[PENNIES_IN_ALL + 1];
        // Of who moves: the purses with which he cannot HAVE it, as the other one sees them.
        private final long[] lost = new long[SUMS_KEPT * LASTS * LASTS];
        private final int[] placesAfter = new int[MOST_WORDS];
        private final long[] pursesAfter = new long[MOST_WORDS];
        private int fitting;
        private Corner corner;
        private int verse;
        private int mineLast;
        private int theirLast;
        private int fromKind;
        private int kinds;

        BestPlay() {
            for (int bit = 0; bit < 64; bit++) {
                for (int pennies = bit / 8 + bit % 8; pennies <= PENNIES_IN_ALL; pennies++) {
                    atMost[pennies] |= 1L << bit;
                }
            }
        }

        static boolean holds(long row, int mine, int theirs) {
            return ((row >>> (8 * theirs + mine)) & 1L) != 0;
        }

        /** The purses, of so many pennies together at most, with which who moves can HAVE it. */
        long winners(Corner ofCorner, int ofVerse, int left, int lasts, int pennies) {
            prepare(ofCorner, ofVerse, lasts);
            long found = 0;
            for (int sum = 0; sum <= left + verse * pennies; sum++) {
                fillSum(sum);
                if (sum >= left && (sum - left) % verse == 0) {
                    int together = (sum - left) / verse;
                    found |= winnersOf(sum) & purses(together) & ~purses(together - 1);
                }
            }
            return found;
        }

        /** The first WORD, or THROW, by which who moves can HAVE it; NONE if there is none. */
        int firstMove(Corner ofCorner, Quarrel quarrel) {
            prepare(ofCorner, quarrel.verse, quarrel.lasts());
            int mine = quarrel.myPurse();
            int theirs = quarrel.theirPurse();
            int top = quarrel.left + verse * (mine + theirs);
            for (int sum = 0; sum <= top; sum++) {
                fillSum(sum);
            }
            for (int word = 0; word < corner.words; word++) {
                if (quarrel.maySay(corner, word)) {
                    int place = placeOf(top - corner.cost(word, mineLast - 1), theirLast, kindOf(word));
                    if (holds(lost[place], mine, theirs)) {
                        return word;
                    }
                }
            }
            return quarrel.mayThrow() && holds(winnersOf(top), mine - 1, theirs) ? THROW : NONE;
        }

        private void prepare(Corner ofCorner, int ofVerse, int lasts) {
            corner = ofCorner;
            verse = Math.max(1, ofVerse);
            // Where a WORD said again takes nothing more, what was said last is all one.
            kinds = corner.again == 0 ? 1 : Math.min(corner.words + 1, LASTS);
            mineLast = Math.min(lasts / 8, kinds - 1);
            theirLast = Math.min(lasts % 8, kinds - 1);
            // Who has spoken once never comes back to having said nothing.
            fromKind = mineLast > 0 && theirLast > 0 ? 1 : 0;
        }

        private int kindOf(int word) {
            return kinds == 1 ? 0 : word + 1;
        }

        private long winnersOf(int sum) {
            return ~swapped(lost[placeOf(sum, mineLast, theirLast)]);
        }

        private void fillSum(int sum) {
            long standing = purses(sum / verse) & ~tooLong(sum);
            for (int mine = fromKind; mine < kinds; mine++) {
                gatherWords(sum, mine);
                for (int theirs = fromKind; theirs < kinds; theirs++) {
                    long wins = withThrows(bySpeaking(theirs) & standing) & standing;
                    lost[placeOf(sum, mine, theirs)] = swapped(~wins);
                }
            }
        }

        /** The purses that would leave more than 200 BEATS of a sum. */
        private long tooLong(int sum) {
            return sum > MOST_LEFT ? purses((sum - MOST_LEFT - 1) / verse) : 0;
        }

        /** Where the WORDS that fit lead to, and with which purses they do fit. */
        private void gatherWords(int sum, int mine) {
            fitting = 0;
            for (int word = 0; word < corner.words && word < MOST_WORDS; word++) {
                int rest = sum - corner.cost(word, mine - 1);
                if (rest >= 0) {
                    placesAfter[fitting] = placeOf(rest, 0, kindOf(word));
                    pursesAfter[fitting] = purses(rest / verse);
                    fitting++;
                }
            }
        }

        private long bySpeaking(int theirs) {
            long wins = 0;
            for (int i = 0; i < fitting; i++) {
                wins |= lost[placesAfter[i] + theirs * LASTS] & pursesAfter[i];
            }
            return wins;
        }

        /** A penny more is as good as one less, if that can be thrown first: one, two and four are seven at most. */
        private static long withThrows(long wins) {
            long more = wins | ((wins << 1) & NOT_FIRST);
            more |= (more << 2) & NOT_FIRST_TWO;
            return more | ((more << 4) & NOT_FIRST_FOUR);
        }

        private long purses(int together) {
            if (together < 0) {
                return 0;
            }
            return atMost[together < PENNIES_IN_ALL ? together : PENNIES_IN_ALL];
        }

        /** Each of mine and theirs below LASTS. */
        private static int placeOf(int sum, int mine, int theirs) {
            return ((sum & (SUMS_KEPT - 1)) * LASTS + mine) * LASTS + theirs;
        }

        /** The row with mine and theirs exchanged: an 8 by 8 square of bits turned over its diagonal. */
        private static long swapped(long row) {
            long one = (row ^ (row >>> 7)) & 0x00AA00AA00AA00AAL;
            long pairs = row ^ one ^ (one << 7);
            long two = (pairs ^ (pairs >>> 14)) & 0x0000CCCC0000CCCCL;
            long fours = pairs ^ two ^ (two << 14);
            long four = (fours ^ (fours >>> 28)) & 0x00000000F0F0F0F0L;
            return fours ^ four ^ (four << 28);
        }
    }

    /** Counts plays move by move; what was counted is kept, for many plays meet in one position. */
    private static final class PlayCounter {
        static final int MOST_MOVES = 8;
        private static final int SLOT_BITS = 11;

        private final int[] keys = new int[1 << SLOT_BITS];
        private final int[] totals = new int[1 << SLOT_BITS];
        private Corner corner;
        private int verse;

        int total(Corner ofCorner, Quarrel quarrel, int moves, int hat, int side) {
            corner = ofCorner;
            verse = quarrel.verse;
            Arrays.fill(keys, 0);
            int purses = 8 * quarrel.myPurse() + quarrel.theirPurse();
            return totalFrom(moves, quarrel.left, quarrel.lasts(), purses, hat, side == quarrel.turn);
        }

        /** Of the MOVES that are left: plays with just so much more in the hat, won by who moves now, or by the other. */
        private int totalFrom(int moves, int left, int lasts, int purses, int hat, boolean isForMover) {
            if (moves <= 0 || moves > MOST_MOVES || hat > moves) {
                return 0;
            }
            int key = keyOf(moves, left, lasts, purses, hat, isForMover);
            int slot = (key * 0x9E3779B1) >>> (32 - SLOT_BITS);
            if (keys[slot] == key) {
                return totals[slot];
            }
            int total = hat == 0 && !isForMover ? 1 : 0;
            for (int word = 0; word < corner.words; word++) {
                int rest = left - corner.cost(word, lasts / 8 - 1);
                if (rest >= 0) {
                    int turned = corner.again == 0 ? 0 : 8 * (lasts % 8) + word + 1;
                    int exchanged = 8 * (purses % 8) + purses / 8;
                    total += behind(moves - 1, rest, turned, exchanged, hat, !isForMover);
                }
            }
            if (hat > 0 && mayThrow(left, purses)) {
                total += behind(moves - 1, left + verse, lasts, purses - 8, hat - 1, isForMover);
            }
            keys[slot] = key;
            totals[slot] = total;
            return total;
        }

        /** Plays from where a MOVE has led: it may be over there. */
        private int behind(int moves, int left, int lasts, int purses, int hat, boolean isForMover) {
            if (mayThrow(left, purses) || corner.anyWordFits(lasts / 8 - 1, left)) {
                return totalFrom(moves, left, lasts, purses, hat, isForMover);
            }
            return hat == 0 && !isForMover ? 1 : 0;
        }

        private boolean mayThrow(int left, int purses) {
            return purses >= 8 && left + verse <= MOST_LEFT;
        }

        /** All of it in one number; never 0, for MOVES are left. */
        private static int keyOf(int moves, int left, int lasts, int purses, int hat, boolean isForMover) {
            int key = (moves << 8) | left;
            key = (key << 6) | lasts;
            key = (key << 6) | purses;
            return (key << 5) | (hat << 1) | (isForMover ? 1 : 0);
        }
    }
}

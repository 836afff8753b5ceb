/** Promises 21 to 27: who waits, their order, draws and lots, counts, images. */
public final class OrganTest {
    public static void main(String[] args) {
        waiting();
        ordering();
        seeding();
        lotsByRules();
        lotsByBestPlay();
        counts();
        images();
        Asker.finish("OrganTest");
    }

    private static void due(String what, int got, int want) {
        Asker.due(what, got, want);
    }

    private static void waiting() {
        LastWords x = Asker.at("tune 1 1;word 1").words;
        due("waits(0, 0)", x.waits(0, 0), -2);
        due("waits(1000, 0)", x.waits(1000, 0), -2);
        due("waits(1, -1)", x.waits(1, -1), -2);
        due("waits(1, 100)", x.waits(1, 100), -2);
        due("waits(-2, 0)", x.waits(-2, 0), -2);
        due("nobody", x.count(9), 0);
        for (int i = 1; i <= 6; i++) {
            due("waits", x.waits(i == 1 ? 999 : 1, i == 1 ? 99 : 0), i);
        }
        due("a seventh", x.waits(1, 1), -2);
        due("six", x.count(9), 6);
        due("nobody waits then", x.waits(-1, 500), 0);
        due("nobody", x.count(9), 0);
        due("anew", x.waits(5, 5), 1);
    }

    private static void orderIs(LastWords x, int sum, int... row) {
        due("sum", x.order(0), sum);
        for (int place = 1; place <= 6; place++) {
            due("place " + place, x.order(place), place <= row.length ? row[place - 1] : -2);
        }
    }

    private static void ordering() {
        LastWords x = Asker.at("tune 1 1;word 1").words;
        due("order(7)", x.order(7), -1);
        due("order(-1)", x.order(-1), -1);
        orderIs(x, 0);
        x.waits(10, 1);
        orderIs(x, 10, 0);
        x.waits(1, 1);
        orderIs(x, 12, 1, 0);
        // As dear a beat as number 1: behind it by number.
        x.waits(2, 2);
        orderIs(x, 1 + 6 + 13, 1, 2, 0);
        x.waits(5, 0);
        orderIs(x, 20, 1, 2, 0, 3);
        x.waits(3, 0);
        x.waits(1, 99);
        orderIs(x, 99 + 2 + 8 + 14, 5, 1, 2, 0, 3, 4);
        x.waits(-1, 0);
        for (int i = 0; i < 6; i++) {
            x.waits(999, 99);
        }
        orderIs(x, 99 * 999 * 21, 0, 1, 2, 3, 4, 5);
    }

    private static void seeding() {
        LastWords x = new LastWords();
        due("seed(5)", x.seed(5), 0);
        due("seed(-1)", x.seed(-1), -1);
        due("x", x.count(10), 5);
        due("seed(max)", x.seed(Integer.MAX_VALUE), 5);
        due("seed(0)", x.seed(0), Integer.MAX_VALUE);
    }

    private static long seed;

    private static int draw() {
        seed = (seed * 1103515245L + 12345L) % 2147483648L;
        return (int) (seed / 65536);
    }

    private static void lotsByRules() {
        Asker a = Asker.at("tune 1 1;tune 1 2;tune 1 3;word 9;word 1;purse 0 4");
        LastWords x = a.words;
        due("rule 0", a.rule("throw;still"), 0);
        due("rule 1", a.rule("say 1"), 1);
        due("lots(0, 2, ..)", x.lots(0, 2, 1, 1, 0), -1);
        due("lots(0, -1, ..)", x.lots(0, -1, 1, 1, 0), -1);
        due("lots(-1, 0, ..)", x.lots(-1, 0, 1, 1, 0), -1);
        due("lots(-2, 0, ..)", x.lots(-2, 0, 1, 1, 0), -1);
        due("lots of 0", x.lots(0, 1, 0, 1, 0), -1);
        due("lots of 51", x.lots(0, 1, 51, 1, 0), -1);
        due("p -1", x.lots(0, 1, 1, -1, 0), -1);
        due("p 8", x.lots(0, 1, 1, 8, 0), -1);
        due("what 3", x.lots(0, 1, 1, 1, 3), -1);
        due("what -1", x.lots(0, 1, 1, 1, -1), -1);
        for (int start : new int[] {0, 1, 2147483647, 987654321}) {
            for (int p = 0; p <= 7; p++) {
                x.seed(start);
                throwers(x, start, p);
                speakers(x, start, p);
                due("x as it was", x.count(10), start);
            }
        }
        due("purse as it was", x.side(0, 0), 4);
        due("hat as it was", x.count(6), 0);
        due("none won", x.count(8), 0);
    }

    /** Who is first throws all that he has, and is still. */
    private static void throwers(LastWords x, int start, int p) {
        seed = start;
        int[] want = new int[3];
        for (int i = 0; i < 50; i++) {
            draw();
            int first = draw() % 2;
            int[] purses = {draw() % (p + 1), draw() % (p + 1)};
            want[1 - first]++;
            want[2] += purses[first];
        }
        for (int what = 0; what < 3; what++) {
            due("throwers, x " + start + ", p " + p + ", what " + what, x.lots(0, 0, 50, p, what), want[what]);
        }
    }

    /** One beat each: of tune 0 and 2 the first speaks last, of tune 1 the second. */
    private static void speakers(LastWords x, int start, int p) {
        seed = start;
        int[] want = new int[3];
        for (int i = 0; i < 33; i++) {
            int tune = draw() % 3;
            int first = draw() % 2;
            draw();
            draw();
            want[tune == 1 ? 1 - first : first]++;
        }
        for (int what = 0; what < 3; what++) {
            due("speakers, x " + start + ", p " + p + ", what " + what, x.lots(1, 1, 33, p, what), want[what]);
        }
    }

    private static void lotsByBestPlay() {
        LastWords x = Asker.at("tune 1 1;tune 1 2;tune 1 3;word 1").words;
        seed = 42;
        x.seed(42);
        int[] want = new int[3];
        for (int i = 0; i < 50; i++) {
            int tune = draw() % 3;
            int first = draw() % 2;
            int[] purses = {draw() % 8, draw() % 8};
            // Of an even verse the second has it. Of an odd one who would lose throws, as long as he can.
            boolean firstHas = tune != 1 && purses[first] >= purses[1 - first];
            want[firstHas ? first : 1 - first]++;
        }
        for (int what = 0; what < 3; what++) {
            due("best play, what " + what, x.lots(-1, -1, 50, 7, what), want[what]);
        }
        due("x as it was", x.count(10), 42);
        due("no corner", new LastWords().lots(-1, -1, 1, 0, 0), -1);
    }

    private static void counts() {
        Asker a = Asker.at("tune 1 6;tune 2 6;word 1;word 2;word 3;purse 0 2");
        LastWords x = a.words;
        a.rule("still");
        x.seed(9);
        x.waits(1, 1);
        x.begin(1, 1);
        x.still();
        x.begin(1, 0);
        x.toss();
        x.speak(2);
        a.tape("abc");
        int[] wants = {2, 3, 1, 21, 1, 12, 1, 2, 1, 1, 9, 3};
        for (int what = 0; what < 12; what++) {
            due("count(" + what + ")", x.count(what), wants[what]);
        }
        due("count(12)", x.count(12), -1);
        due("count(-1)", x.count(-1), -1);
    }

    private static void images() {
        Asker a = Asker.at("tune 1 6;word 1;word 2;purse 0 2;purse 1 1");
        LastWords x = a.words;
        due("image(4)", x.image(4), -1);
        due("image(-1)", x.image(-1), -1);
        due("back(3), never made", x.back(3), -1);
        due("back(4)", x.back(4), -1);
        due("back(-1)", x.back(-1), -1);
        x.seed(3);
        x.waits(7, 7);
        x.begin(0, 0);
        x.still();
        x.begin(0, 1);
        x.toss();
        x.speak(1);
        due("image(3)", x.image(3), 1);
        x.speak(0);
        x.toss();
        x.still();
        x.fill(1, 6);
        x.seed(8);
        x.waits(1, 9);
        a.rule("say 0");
        a.corner("tune 9 8;tune 1 1;word 3;again 4");
        a.tape("xyz");
        due("image(0) of the new corner", x.image(0), 0);
        due("back(3)", x.back(3), 1);
        // The tape and the rules stay.
        int[] wants = {1, 2, 1, 10, 0, 6, 1, 2, 1, 1, 3, 3};
        for (int what = 0; what < 12; what++) {
            due("gone back: count(" + what + ")", x.count(what), wants[what]);
        }
        int[] sides = {2, -1, 0, 0, 0, 1, 1, 1};
        for (int i = 0; i < 8; i++) {
            due("gone back: side(" + i / 4 + ", " + i % 4 + ")", x.side(i / 4, i % 4), sides[i]);
        }
        due("who waits", x.order(0), 49);
        due("it goes on", x.speak(0), 9);
        due("back(3) once more", x.back(3), 1);
        due("as it was", x.count(3), 10);
        due("back(0)", x.back(0), 0);
        due("the other corner", x.begin(0, 0), 72);
        due("image of it", x.image(3), 0);
        due("again 4", x.speak(0), 69);
        x.speak(0);
        due("again 4", x.speak(0), 59);
        // An image of a new object has no corner.
        Asker b = new Asker();
        due("image of nothing", b.words.image(1), 0);
        b.corner("tune 1 1;word 1");
        due("back to nothing", b.words.back(1), 0);
        due("no corner", b.words.begin(0, 0), -1);
        due("no tunes", b.words.count(0), 0);
        due("no sides", b.words.side(0, 3), -1);
        due("nobody can wait", b.words.waits(1, 1), -2);
        due("nobody waits", b.words.waits(-1, 0), 0);
    }
}

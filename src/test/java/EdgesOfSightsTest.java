import java.util.ArrayList;
import java.util.List;

/** ==== 4 and promises 33 to 37, boundary by boundary; each check names its sentence. */
public final class EdgesOfSightsTest {
    private static final Check check = new Check("EdgesOfSightsTest");
    private static final int LEAST = Integer.MIN_VALUE;
    private static final int GREATEST = Integer.MAX_VALUE;

    public static void main(String[] args) {
        promise33();
        promise34();
        behindRing();
        promise35();
        knownAtATime();
        promise36();
        numbersUpTo200();
        promise37();
        askedOfLikeOnesTheFirst();
        check.close();
    }

    private static void promise33() {
        PostRing ring = new PostRing();
        int[][] wrong = {{0, 1, 0}, {-1, 1, 0}, {61, 1, 0}, {LEAST, 1, 0}, {GREATEST, 1, 0}, {5, 0, 0}, {5, -1, 0}, {5, 6, 0},
            {5, LEAST, 0}, {5, GREATEST, 0}, {5, 1, -1}, {5, 1, 5}, {5, 1, LEAST}, {5, 1, GREATEST}, {1, 2, 0}, {1, 1, 1},
            {60, 61, 0}, {60, 60, 60}};
        for (int[] one : wrong) {
            check.due("can't be: " + List.of(one[0], one[1], one[2]), ring.sight(one[0], one[1], one[2]), -1);
        }
        check.due("doing nothing", ring.about(5), 0);
        check.due("nothing is known", ring.fits(0, 0), 200);
        check.due("n 1, i 1, post 0", ring.sight(1, 1, 0), 0);
        check.due("n 60, i 1, post 0", ring.sight(60, 1, 0), 1);
        check.due("n 60, i 60, post 59", ring.sight(60, 60, 59), 2);
        check.due("n 5, i 5, post 4", ring.sight(5, 5, 4), 3);
        check.due("the same once more", ring.sight(5, 5, 4), 4);
        for (int i = 5; i < 40; i++) {
            check.due("its number", ring.sight(1, 1, 0), i);
        }
        int fits = ring.fits(0, 0);
        check.due("there are 40", ring.sight(5, 1, 1), -1);
        check.due("doing nothing", ring.about(5), 40);
        check.due("nothing more is known", ring.fits(0, 0), fits);
        check.due("untold ones are sights, too", ring.untell(7), true);
        check.due("there are 40", ring.sight(5, 1, 1), -1);
        check.due("the last one can be untold", ring.untell(39), true);
        check.due("there is none such", ring.untell(40), false);
        // The ring of a sight is its own, not that told by the text.
        PostRing told = Check.ringOf("stand 3;begin 2;left 2;count 7;boy 1;turn 1;again 4;");
        check.due("of another ring", told.sight(5, 1, 2), 0);
        check.due("which began at 0, by a number alone", told.fits(0, 0) * 1000 + told.fits(1, 0), 40003);
    }

    private static void promise34() {
        PostRing ring = new PostRing();
        for (int sight : new int[] {-1, 0, 1, 39, 40, LEAST, GREATEST}) {
            check.due("none such " + sight, ring.untell(sight), false);
        }
        ring.sight(5, 1, 2);
        ring.sight(5, 2, 0);
        check.due("none such", ring.untell(2), false);
        check.due("none such", ring.untell(-1), false);
        check.due("both count", ring.fits(0, 0), 10);
        check.due("it is untold", ring.untell(1), true);
        check.due("at the same time", ring.fits(0, 0), 40);
        check.due("it is so already", ring.untell(1), false);
        check.due("the other one", ring.untell(0), true);
        check.due("none counts", ring.fits(0, 0), 200);
        check.due("it is so already", ring.untell(0), false);
        check.due("sights stay in number", ring.about(5), 2);
        check.due("the next has the next number", ring.sight(5, 1, 2), 2);
        ring.later(10);
        check.due("untold later", ring.untell(2), true);
        ring.later(10);
        check.due("it is so already", ring.untell(2), false);
        check.due("it stays untold from then on", ring.fits(0, 10), 200);
        check.due("before that it counts", ring.fits(0, 9), 40);
    }

    /** SIGHTS are none then; the TIME stays; behind a fault all stays. */
    private static void behindRing() {
        PostRing ring = new PostRing();
        ring.later(7);
        for (int i = 0; i < 40; i++) {
            ring.sight(5, 1, 2);
        }
        ring.untell(3);
        Check.put(ring, "$");
        check.due("a fault", ring.ring(), -1);
        check.due("all stays", ring.about(5) * 100 + ring.fits(0, 7), 4040);
        check.due("ring()", ring.ring(), 1);
        check.due("no sights", ring.about(5), 0);
        check.due("the time stays", ring.about(6), 7);
        check.due("nothing is known", ring.fits(0, 7) + ring.fits(0, Integer.MAX_VALUE), 400);
        for (int sight : new int[] {0, 1, 3, 39}) {
            check.due("none to untell", ring.untell(sight), false);
        }
        check.due("from 0 on again", ring.sight(5, 1, 3), 0);
        check.due("that alone is known", ring.fits(1, 7), 4);
        check.due("none such", ring.untell(1), false);
        check.due("told anew it is not untold", ring.untell(0), true);
        for (int i = 1; i < 40; i++) {
            check.due("up to 40 again", ring.sight(5, 1, 3), i);
        }
        check.due("there are 40", ring.sight(5, 1, 3), -1);
        check.due("the fourth is not untold", ring.untell(3), true);
    }

    private static void promise35() {
        PostRing ring = new PostRing();
        for (int by : new int[] {-1, 1001, LEAST, GREATEST}) {
            check.due("another number " + by, ring.later(by), -1);
        }
        check.due("doing nothing", ring.about(6), 0);
        check.due("0", ring.later(0), 0);
        check.due("1", ring.later(1), 1);
        check.due("1000", ring.later(1000), 1001);
        for (int i = 1; i < 99; i++) {
            check.due("1000", ring.later(1000), 1001 + 1000 * i);
        }
        check.due("above 100,000", ring.later(1000), -1);
        check.due("doing nothing", ring.about(6), 99001);
        check.due("998", ring.later(998), 99999);
        check.due("above 100,000", ring.later(2), -1);
        check.due("100,000", ring.later(1), 100000);
        check.due("0", ring.later(0), 100000);
        check.due("above 100,000", ring.later(1), -1);
        check.due("doing nothing", ring.about(6), 100000);
        check.due("told at the last time", ring.sight(5, 1, 2), 0);
        check.due("known then", ring.fits(0, 100000), 40);
        check.due("not before", ring.fits(0, 99999), 200);
    }

    private static void knownAtATime() {
        PostRing ring = new PostRing();
        ring.later(10);
        ring.sight(5, 1, 2);
        ring.later(10);
        ring.untell(0);
        ring.later(10);
        check.due("before it was told", ring.fits(0, 9), 200);
        check.due("when it was told", ring.fits(0, 10), 40);
        check.due("till it was untold", ring.fits(0, 19), 40);
        check.due("when it was untold", ring.fits(0, 20), 200);
        check.due("now", ring.fits(0, 30), 200);
        check.due("later than now", ring.fits(0, GREATEST), 200);
        check.due("before all times", ring.fits(0, -1), 200);
        check.due("before all times", ring.fits(0, LEAST), 200);
        // Untold at the time when it was told it never counts.
        PostRing atOnce = new PostRing();
        atOnce.later(5);
        atOnce.sight(5, 1, 2);
        atOnce.untell(0);
        for (int time = 4; time <= 6; time++) {
            check.due("never known", atOnce.fits(0, time), 200);
        }
        PostRing first = new PostRing();
        first.sight(5, 1, 2);
        check.due("told at 0, known at 0", first.fits(0, 0), 40);
        check.due("known later than now", first.fits(0, GREATEST), 40);
        check.due("not known before 0", first.fits(0, -1), 200);
        check.due("asked as known before 0", first.ask(5, 1, -1) > first.ask(5, 1, 0), true);
    }

    private static void promise36() {
        PostRing ring = new PostRing();
        for (int what : new int[] {-1, 2, LEAST, GREATEST}) {
            check.due("another what " + what, ring.fits(what, 0), -1);
        }
        check.due("nothing told: all 200", ring.fits(0, 0), 200);
        check.due("nothing told: the least", ring.fits(1, 0), 1);
        ring.sight(1, 1, 0);
        check.due("told what is always so", ring.fits(0, 0) * 10 + ring.fits(1, 0), 2001);
        ring.sight(5, 1, 2);
        ring.sight(5, 1, 3);
        check.due("none fits", ring.fits(0, 0), 0);
        check.due("no least", ring.fits(1, 0), -1);
        ring.untell(2);
        check.due("3, 8, .. 198", ring.fits(0, 0) * 10 + ring.fits(1, 0), 403);
    }

    /** Sights by which just one number fits: the last that can, and the first that can't. */
    private static void numbersUpTo200() {
        for (int k : new int[] {1, 2, 63, 64, 65, 127, 128, 129, 191, 192, 193, 199, 200, 201, 202}) {
            PostRing ring = new PostRing();
            for (int n : new int[] {60, 59, 57, 53, 49, 47, 43}) {
                ring.sight(n, 1, (k - 1) % n);
            }
            check.due("just " + k, ring.fits(0, 0), k <= 200 ? 1 : 0);
            check.due("the least " + k, ring.fits(1, 0), k <= 200 ? k : -1);
            check.due("asked " + k, ring.ask(7, 0, 0), k <= 200 ? 1 : -1);
            check.due("asked " + k, ring.ask(7, 1, 0), k <= 200 ? 1 : -1);
        }
    }

    private static void promise37() {
        PostRing ring = new PostRing();
        for (int what = 0; what < 2; what++) {
            for (int n : new int[] {0, -1, 61, LEAST, GREATEST}) {
                check.due("ask n " + n, ring.ask(n, what, 0), -1);
            }
        }
        for (int what : new int[] {-1, 2, LEAST, GREATEST}) {
            check.due("another what " + what, ring.ask(5, what, 0), -1);
        }
        check.due("one post: the first", ring.ask(1, 0, 0), 1);
        check.due("one post: all 200", ring.ask(1, 1, 0), 200);
        // Of two posts both questions part 200 in halves.
        check.due("of like ones the first", ring.ask(2, 0, 0), 1);
        check.due("by halves", ring.ask(2, 1, 0), 100);
        int[] want = best(60, fitting(1, 1, 0));
        check.due("n 60", ring.ask(60, 0, 0), want[0]);
        check.due("n 60", ring.ask(60, 1, 0), want[1]);
        ring.later(3);
        ring.sight(5, 1, 2);
        check.due("as known ahead of it", ring.ask(2, 1, 2), 100);
        // 3, 8, .. 198: 20 of them odd.
        check.due("as known then", ring.ask(2, 1, 3), 20);
        ring.sight(5, 1, 3);
        check.due("none fits", ring.ask(2, 0, 3), -1);
        check.due("none fits", ring.ask(2, 1, 3), -1);
        check.due("some fitted ahead of it", ring.ask(2, 0, 2), 1);
    }

    /** All numbers by which the i-th to go of n is at a post. */
    private static List<Integer> fitting(int n, int i, int post) {
        List<Integer> numbers = new ArrayList<>();
        for (int k = 1; k <= 200; k++) {
            if (Model.plain(n, k).get(i - 1) == post) {
                numbers.add(k);
            }
        }
        return numbers;
    }

    /** The i to ask for of a ring of n, and its greatest number. */
    private static int[] best(int n, List<Integer> numbers) {
        int[] found = {0, GREATEST};
        for (int i = 1; i <= n; i++) {
            int[] times = new int[n];
            int greatest = 0;
            for (int k : numbers) {
                greatest = Math.max(greatest, ++times[Model.plain(n, k).get(i - 1)]);
            }
            found = greatest < found[1] ? new int[] {i, greatest} : found;
        }
        return found;
    }

    private static void askedOfLikeOnesTheFirst() {
        for (int n = 1; n <= 60; n++) {
            PostRing ring = new PostRing();
            int[] want = best(n, fitting(1, 1, 0));
            check.due("ask " + n, ring.ask(n, 0, 0), want[0]);
            check.due("ask " + n, ring.ask(n, 1, 0), want[1]);
        }
        int[][] sights = {{4, 4, 0, 3}, {6, 6, 0, 5}, {7, 4, 3, 4}, {5, 1, 2, 5}, {60, 1, 7, 60}, {60, 60, 7, 60}};
        boolean last = false;
        boolean between = false;
        for (int[] one : sights) {
            PostRing ring = new PostRing();
            ring.sight(one[0], one[1], one[2]);
            int[] want = best(one[3], fitting(one[0], one[1], one[2]));
            check.due("ask " + one[3] + " behind one sight", ring.ask(one[3], 0, 0), want[0]);
            check.due("ask " + one[3] + " behind one sight", ring.ask(one[3], 1, 0), want[1]);
            last |= want[0] == one[3];
            between |= want[0] > 1 && want[0] < one[3];
        }
        check.due("the last one may be the i", last, true);
        check.due("one between may be the i", between, true);
        // As 2 goes first of 5, and 0 then, it is the third who is asked for.
        PostRing two = new PostRing();
        two.sight(5, 1, 2);
        two.sight(5, 2, 0);
        check.due("3 of 5", two.ask(5, 0, 0), 3);
        check.due("by 4 of 10", two.ask(5, 1, 0), 4);
    }
}

import java.util.ArrayList;
import java.util.List;
import java.util.Random;

/** Promises 33 to 37: what was seen, as known at a time. */
public final class SightTest {
    private static final Check check = new Check("SightTest");

    public static void main(String[] args) {
        sights();
        times();
        later();
        edges();
        ringForgets();
        check.close();
    }

    private static void sights() {
        Random random = new Random(33);
        for (int round = 0; round < 60; round++) {
            PostRing ring = new PostRing();
            List<int[]> told = new ArrayList<>();
            int hidden = 1 + random.nextInt(200);
            int time = 0;
            for (int step = 0; step < 12; step++) {
                int n = 1 + random.nextInt(round % 2 == 0 ? 60 : 7);
                int i = 1 + random.nextInt(n);
                int post = random.nextInt(9) == 0 ? random.nextInt(n) : Model.plain(n, hidden).get(i - 1);
                check.due("sight", ring.sight(n, i, post), told.size());
                told.add(new int[] {n, i, post, time, Integer.MAX_VALUE});
                if (random.nextInt(3) == 0) {
                    int gone = random.nextInt(told.size());
                    boolean was = told.get(gone)[4] == Integer.MAX_VALUE;
                    check.due("untell " + gone, ring.untell(gone), was);
                    told.get(gone)[4] = was ? time : told.get(gone)[4];
                }
                int by = random.nextInt(3);
                time += by;
                check.due("later", ring.later(by), time);
                compare(ring, told, random.nextInt(time + 3) - 1, 1 + random.nextInt(8));
            }
            check.due("about(5)", ring.about(5), told.size());
            check.due("about(6)", ring.about(6), time);
            compare(ring, told, time, 60);
        }
    }

    private static void compare(PostRing ring, List<int[]> told, int known, int n) {
        List<Integer> fit = new ArrayList<>();
        for (int k = 1; k <= 200; k++) {
            boolean so = true;
            for (int[] sight : told) {
                if (sight[3] <= known && sight[4] > known) {
                    so &= Model.plain(sight[0], k).get(sight[1] - 1) == sight[2];
                }
            }
            if (so) {
                fit.add(k);
            }
        }
        check.due("fits 0 " + known, ring.fits(0, known), fit.size());
        check.due("fits 1 " + known, ring.fits(1, known), fit.isEmpty() ? -1 : fit.get(0));
        int best = -1;
        int least = Integer.MAX_VALUE;
        for (int i = 1; i <= n; i++) {
            int[] times = new int[n];
            int most = 0;
            for (int k : fit) {
                int post = Model.plain(n, k).get(i - 1);
                times[post]++;
                most = Math.max(most, times[post]);
            }
            if (most < least) {
                least = most;
                best = i;
            }
        }
        check.due("ask " + n + " 0 " + known, ring.ask(n, 0, known), fit.isEmpty() ? -1 : best);
        check.due("ask " + n + " 1 " + known, ring.ask(n, 1, known), fit.isEmpty() ? -1 : least);
    }

    private static void times() {
        PostRing ring = new PostRing();
        check.due("nothing seen", ring.fits(0, 0), 200);
        check.due("nothing seen", ring.fits(1, 0), 1);
        check.due("sight at 0", ring.sight(5, 1, 2), 0);
        check.due("before 0", ring.fits(0, -1), 200);
        check.due("at 0", ring.fits(0, 0), 40);
        check.due("at a time to come", ring.fits(0, Integer.MAX_VALUE), 40);
        check.due("later", ring.later(10), 10);
        check.due("sight at 10", ring.sight(5, 2, 0), 1);
        check.due("at 9", ring.fits(0, 9), 40);
        check.due("at 10", ring.fits(0, 10), 10);
        check.due("untell at once", ring.untell(1), true);
        check.due("at 10, taken back", ring.fits(0, 10), 40);
        check.due("later", ring.later(5), 15);
        check.due("untell later", ring.untell(0), true);
        check.due("at 14", ring.fits(0, 14), 40);
        check.due("at 15", ring.fits(0, 15), 200);
        check.due("told sights stay", ring.about(5), 2);
        check.due("sights that do not go together", ring.sight(5, 1, 2) + ring.sight(5, 1, 3), 5);
        check.due("none fits", ring.fits(0, 15), 0);
        check.due("none fits", ring.fits(1, 15), -1);
        check.due("nothing to ask", ring.ask(5, 0, 15), -1);
        check.due("nothing to ask", ring.ask(5, 1, 15), -1);
    }

    private static void later() {
        PostRing ring = new PostRing();
        check.due("-1", ring.later(-1), -1);
        check.due("1001", ring.later(1001), -1);
        check.due("greatest", ring.later(Integer.MAX_VALUE), -1);
        check.due("0", ring.later(0), 0);
        for (int i = 1; i < 100; i++) {
            check.due("1000", ring.later(1000), i * 1000);
        }
        check.due("999", ring.later(999), 99999);
        check.due("above 100,000", ring.later(2), -1);
        check.due("100,000", ring.later(1), 100000);
        check.due("0 at the last", ring.later(0), 100000);
        check.due("1 more", ring.later(1), -1);
        check.due("about(6)", ring.about(6), 100000);
    }

    private static void edges() {
        PostRing ring = new PostRing();
        int[][] wrong = {{0, 1, 0}, {61, 1, 0}, {5, 0, 0}, {5, 6, 0}, {5, 1, -1}, {5, 1, 5}, {-1, -1, -1},
            {Integer.MIN_VALUE, Integer.MAX_VALUE, Integer.MIN_VALUE}};
        for (int[] one : wrong) {
            check.due("sight " + one[0] + " " + one[1] + " " + one[2], ring.sight(one[0], one[1], one[2]), -1);
        }
        check.due("nothing came", ring.about(5), 0);
        check.due("untell -1", ring.untell(-1), false);
        check.due("untell 0", ring.untell(0), false);
        check.due("fits 2", ring.fits(2, 0), -1);
        check.due("fits -1", ring.fits(-1, 0), -1);
        check.due("ask n 0", ring.ask(0, 0, 0), -1);
        check.due("ask n 61", ring.ask(61, 0, 0), -1);
        check.due("ask what 2", ring.ask(5, 2, 0), -1);
        check.due("ask what -1", ring.ask(5, -1, 0), -1);
        check.due("ask of one", ring.ask(1, 0, 0), 1);
        check.due("ask of one", ring.ask(1, 1, 0), 200);
        for (int i = 0; i < 40; i++) {
            check.due("sight " + i, ring.sight(60, 60, 59), i);
        }
        check.due("the 41st", ring.sight(60, 60, 59), -1);
        check.due("untell does not make room", ring.untell(39), true);
        check.due("the 41st", ring.sight(60, 60, 59), -1);
        check.due("untell 40", ring.untell(40), false);
        check.due("about(5)", ring.about(5), 40);
    }

    private static void ringForgets() {
        PostRing ring = new PostRing();
        ring.later(7);
        ring.sight(5, 1, 2);
        ring.untell(0);
        ring.sight(5, 1, 2);
        check.due("ring()", ring.ring(), 1);
        check.due("none to take back", ring.untell(0), false);
        check.due("none to take back", ring.untell(1), false);
        check.due("no sights", ring.about(5), 0);
        check.due("the time stays", ring.about(6), 7);
        check.due("all fit", ring.fits(0, 7), 200);
        check.due("numbers from 0 again", ring.sight(5, 1, 3), 0);
        check.due("told anew", ring.fits(0, 7), 40);
        check.due("not taken back", ring.untell(0), true);
    }
}

import java.util.ArrayList;
import java.util.List;

/** ==== 3 and promises 20 to 32, boundary by boundary; each check names its sentence. */
public final class EdgesOfPlainTest {
    private static final Check check = new Check("EdgesOfPlainTest");
    private static final int LEAST = Integer.MIN_VALUE;
    private static final int GREATEST = Integer.MAX_VALUE;
    private static final long MOST = 1000000000000L;

    public static void main(String[] args) {
        promise20();
        promise21();
        promise22();
        sizesUpTo5000();
        promise23();
        promise24();
        promise25();
        numbersAsGreatAsCanBe();
        promise26();
        rulesAtTheirBounds();
        allSmallOrders();
        promise27();
        promise28();
        promise29();
        promise30();
        promise31();
        promise32();
        check.close();
    }

    private static void promise20() {
        PostRing ring = new PostRing();
        for (long n : new long[] {0, -1, MOST + 1, Long.MIN_VALUE, Long.MAX_VALUE}) {
            check.due("far n " + n, ring.far(n, 3, 1), -1);
        }
        for (int k : new int[] {0, -1, 1001, LEAST, GREATEST}) {
            check.due("far k " + k, ring.far(5, k, 1), -1);
        }
        for (long m : new long[] {0, -1, 6, Long.MIN_VALUE, Long.MAX_VALUE}) {
            check.due("far m " + m, ring.far(5, 3, m), -1);
        }
        check.due("one post", ring.far(1, 1, 1), 0);
        check.due("one post, no second", ring.far(1, 1, 2), -1);
        check.due("one post by 1000", ring.far(1, 1000, 1), 0);
        check.due("the first", ring.far(5, 3, 1), 2);
        check.due("the last", ring.far(5, 3, 5), 3);
        check.due("k 1", ring.far(MOST, 1, MOST), MOST - 1);
        check.due("k 1, the first", ring.far(MOST, 1, 1), 0);
        check.due("k 1000", ring.far(MOST, 1000, 1), 999);
        check.due("k 1000, the last of the first round", ring.far(MOST, 1000, MOST / 1000), MOST - 1);
        check.due("k 1000, the first of the second round", ring.far(MOST, 1000, MOST / 1000 + 1), 1000);
        check.due("k 2, the last", ring.far(MOST, 2, MOST), 2 * (MOST - Long.highestOneBit(MOST)));
        check.due("m beyond the greatest ring", ring.far(MOST, 2, MOST + 1), -1);
        check.due("k greater than n", ring.far(3, 1000, 1), 0);
        for (int m = 1; m <= 7; m++) {
            check.due("by 1000 of 7", ring.far(7, 1000, m), Model.plain(7, 1000).get(m - 1));
            check.due("by 999 of 7", ring.far(7, 999, m), Model.plain(7, 999).get(m - 1));
        }
    }

    private static void promise21() {
        PostRing ring = new PostRing();
        for (long n : new long[] {0, -1, MOST + 1, Long.MIN_VALUE, Long.MAX_VALUE}) {
            check.due("at n " + n, ring.at(n, 3, 0), -1);
        }
        for (int k : new int[] {0, -1, 1001, LEAST, GREATEST}) {
            check.due("at k " + k, ring.at(5, k, 1), -1);
        }
        for (long post : new long[] {-1, 5, Long.MIN_VALUE, Long.MAX_VALUE}) {
            check.due("at post " + post, ring.at(5, 3, post), -1);
        }
        check.due("one post", ring.at(1, 1, 0), 1);
        check.due("one post, no other", ring.at(1, 1, 1), -1);
        check.due("one post by 1000", ring.at(1, 1000, 0), 1);
        check.due("from 1 on", ring.at(5, 3, 2), 1);
        check.due("the last", ring.at(5, 3, 3), 5);
        check.due("k 1", ring.at(MOST, 1, MOST - 1), MOST);
        check.due("k 1, the first", ring.at(MOST, 1, 0), 1);
        check.due("beyond the greatest ring", ring.at(MOST, 1, MOST), -1);
        check.due("k 1000", ring.at(MOST, 1000, 999), 1);
        check.due("k 1000, the end of the first round", ring.at(MOST, 1000, MOST - 1), MOST / 1000);
        check.due("k 1000, the second round", ring.at(MOST, 1000, 1000), MOST / 1000 + 1);
        check.due("the last by 1000", ring.at(MOST, 1000, ring.far(MOST, 1000, MOST)), MOST);
        check.due("the last but one by 999", ring.at(MOST - 1, 999, ring.far(MOST - 1, 999, MOST - 2)), MOST - 2);
    }

    private static void promise22() {
        PostRing ring = new PostRing();
        for (int k : new int[] {0, -1, 1001, LEAST, GREATEST}) {
            check.due("size k " + k, ring.size(k, 0, 0), -1);
        }
        for (int post : new int[] {-1, 5000, LEAST, GREATEST}) {
            check.due("size post " + post, ring.size(3, post, 0), -1);
        }
        for (int i : new int[] {-1, 5000, LEAST, GREATEST}) {
            check.due("size i " + i, ring.size(3, 0, i), -1);
        }
        check.due("n 1", ring.size(1, 0, 0), 1);
        check.due("n 1 by 1000", ring.size(1000, 0, 0), 1);
        check.due("by 1 post 0 is last of 1 alone", ring.size(1, 0, 1), -1);
        check.due("n 5000", ring.size(1, 4999, 0), 5000);
        check.due("no second", ring.size(1, 4999, 1), -1);
        check.due("from 0 on", ring.size(3, 3, 0), 5);
        check.due("the next", ring.size(3, 3, 1), 7);
        // By 2 post 0 is last of 1, 2, 4, .. 4096.
        for (int i = 0; i <= 12; i++) {
            check.due("powers of 2", ring.size(2, 0, i), 1 << i);
        }
        check.due("8192 is beyond", ring.size(2, 0, 13), -1);
        check.due("an odd post is never last by 2", ring.size(2, 4999, 0), -1);
    }

    private static void sizesUpTo5000() {
        PostRing ring = new PostRing();
        for (int k : new int[] {3, 7, 1000}) {
            int lastOf5000 = Model.plain(5000, k).get(4999);
            int lastOf5001 = Model.plain(5001, k).get(5000);
            check.due("n 5000 by " + k, greatestSize(ring, k, lastOf5000), 5000);
            check.due("n 5001 by " + k, greatestSize(ring, k, lastOf5001) < 5000, true);
        }
    }

    private static int greatestSize(PostRing ring, int k, int post) {
        int last = -1;
        for (int i = 0; i < 30; i++) {
            int size = ring.size(k, post, i);
            check.due("growing", size == -1 || size > last, true);
            last = Math.max(last, size);
        }
        return last;
    }

    private static long setOf(List<Integer> order) {
        long set = 0;
        for (int post : order) {
            set |= 1L << post;
        }
        return set;
    }

    private static void promise23() {
        PostRing ring = new PostRing();
        for (int n : new int[] {0, -1, 61, 64, 65, LEAST, GREATEST}) {
            check.due("keeps n " + n, ring.keeps(n, 1), -1);
            check.due("keeps all of n " + n, ring.keeps(n, -1), -1);
        }
        for (long set : new long[] {0, 32, 63, 1L << 60, -1, Long.MIN_VALUE, Long.MAX_VALUE}) {
            check.due("keeps set " + set, ring.keeps(5, set), -1);
        }
        check.due("one post", ring.keeps(1, 1), 1);
        check.due("beyond one post", ring.keeps(1, 2), -1);
        check.due("a set of n", ring.keeps(60, (1L << 60) - 1), 1);
        check.due("beyond 60", ring.keeps(60, (1L << 61) - 1), -1);
        check.due("a set of n - 1", ring.keeps(5, 30), 1);
        check.due("a set of 1", ring.keeps(5, 8), 3);
        check.due("post 59", ring.keeps(60, 1L << 59), 1);
        for (int k = 2999; k <= 3001; k++) {
            List<Integer> order = Model.plain(60, k);
            check.due("k " + k, ring.keeps(60, setOf(order.subList(6, 60))), k <= 3000 ? k : -1);
        }
    }

    private static void promise24() {
        PostRing ring = new PostRing();
        for (int n : new int[] {0, -1, 61, 64, 65, LEAST, GREATEST}) {
            check.due("first n " + n, ring.first(n, 1), -1);
            check.due("first all of n " + n, ring.first(n, -1), -1);
        }
        for (long set : new long[] {0, 32, 63, 1L << 60, -1, Long.MIN_VALUE, Long.MAX_VALUE}) {
            check.due("first set " + set, ring.first(5, set), -1);
        }
        check.due("one post", ring.first(1, 1), 1);
        check.due("beyond one post", ring.first(1, 2), -1);
        check.due("a set of n", ring.first(60, (1L << 60) - 1), 1);
        check.due("beyond 60", ring.first(60, (1L << 61) - 1), -1);
        check.due("a set of n - 1", ring.first(5, 23), 3);
        check.due("a set of 1", ring.first(5, 4), 3);
        check.due("post 59", ring.first(60, 1L << 59), 60);
        check.due("in any order", ring.first(5, 5), 3);
        for (int k = 2999; k <= 3001; k++) {
            List<Integer> order = Model.plain(60, k);
            check.due("k " + k, ring.first(60, setOf(order.subList(0, 6))), k <= 3000 ? k : -1);
        }
    }

    private static PostRing told(int... posts) {
        PostRing ring = new PostRing();
        for (int post : posts) {
            ring.order(post);
        }
        return ring;
    }

    private static PostRing told(List<Integer> posts) {
        return told(posts.stream().mapToInt(Integer::intValue).toArray());
    }

    private static void promise25() {
        check.due("the order is empty", told().number(5), -1);
        for (int n : new int[] {0, -1, 61, LEAST, GREATEST}) {
            check.due("number n " + n, told(0).number(n), -1);
        }
        check.due("one post", told(0).number(1), 1);
        check.due("post 0 of 60 by 1", told(0).number(60), 1);
        check.due("post 59 of 60 by 60", told(59).number(60), 60);
        check.due("a post beyond n", told(5).number(5), -1);
        check.due("a post beyond n, later", told(2, 5).number(5), -1);
        check.due("a post twice", told(2, 2).number(5), -1);
        check.due("more than n", told(0, 1).number(1), -1);
        check.due("all of n", told(2, 0, 4, 1, 3).number(5), 3);
        check.due("one more than n", told(2, 0, 4, 1, 3, 3).number(5), -1);
        check.due("remainders that do not go together", told(0, 1, 3).number(4), -1);
        List<Integer> eight = Model.plain(8, 3);
        check.due("eight are asked", told(eight).number(8), 3);
        List<Integer> nine = new ArrayList<>(eight);
        nine.add(0);
        check.due("a ninth is not", told(nine).number(8), 3);
        List<Integer> wrongEighth = new ArrayList<>(Model.plain(20, 3).subList(0, 7));
        wrongEighth.add(wrongEighth.get(0));
        check.due("the eighth is", told(wrongEighth).number(20), -1);
        List<Integer> seven = Model.plain(7, 3);
        seven.add(0);
        check.due("eight of seven", told(seven).number(7), -1);
        List<Integer> wrongNinth = new ArrayList<>(Model.plain(20, 3).subList(0, 8));
        wrongNinth.add(59);
        check.due("a ninth that can't be is not asked", told(wrongNinth).number(20), 3);
    }

    private static void numbersAsGreatAsCanBe() {
        // Always the last one counted: k is a multiple of each of 60, 59, .. 53.
        long all = 1;
        for (long n = 53; n <= 60; n++) {
            long common = java.math.BigInteger.valueOf(all).gcd(java.math.BigInteger.valueOf(n)).longValue();
            all = all / common * n;
        }
        check.due("the greatest", told(59, 58, 57, 56, 55, 54, 53, 52).number(60), all);
        // One less: each time the last but one of those who stand, and 0 is the next looked at.
        List<Integer> before = new ArrayList<>();
        List<Integer> stand = new ArrayList<>();
        for (int post = 0; post < 60; post++) {
            stand.add(post);
        }
        int at = 0;
        for (int i = 0; i < 8; i++) {
            at = (int) ((at + (all - 1) - 1) % stand.size());
            before.add(stand.remove(at));
        }
        check.due("one less", told(before).number(60), all - 1);
        check.due("seven of these", told(before.subList(0, 7)).number(60) < all - 1, true);
    }

    private static void promise26() {
        PostRing none = new PostRing();
        check.due("empty: how many", none.guess(5, 0), 0);
        check.due("empty: the plainest", none.guess(5, 1), -1);
        for (int n : new int[] {0, -1, 61, LEAST, GREATEST}) {
            check.due("guess n " + n, told(0).guess(n, 0), -1);
            check.due("guess n " + n, told(0).guess(n, 1), -1);
        }
        for (int what : new int[] {-1, 2, LEAST, GREATEST}) {
            check.due("another what " + what, told(0).guess(5, what), -1);
        }
        check.due("one post: all rules", told(0).guess(1, 0), 12 * 12 * 7);
        check.due("one post: the plainest", told(0).guess(1, 1), 10100);
        check.due("two of one post: how many", told(0, 0).guess(1, 0), 0);
        check.due("two of one post: the plainest", told(0, 0).guess(1, 1), -1);
        check.due("as long as n", told(0, 1).guess(2, 0) > 0, true);
        check.due("longer than n", told(0, 1, 0).guess(2, 0), 0);
        check.due("a post beyond n", told(5).guess(5, 0), 0);
        check.due("a post beyond n", told(5).guess(5, 1), -1);
        check.due("a post twice", told(0, 0).guess(5, 0), 0);
        check.due("n 60", told(0, 1).guess(60, 1), 10100);
        List<Integer> all = Model.byRule(60, 12, 11, 6, 60);
        check.due("all of it", told(all).guess(60, 1), 121106);
        java.util.Collections.swap(all, 58, 59);
        check.due("the last ones wrong", told(all).guess(60, 0), 0);
    }

    private static void rulesAtTheirBounds() {
        // Four goings tell a and b alone in a ring of 60; more of them tell t.
        for (int a : new int[] {1, 12}) {
            for (int b : new int[] {1, 12}) {
                for (int t : new int[] {0, 1, 6}) {
                    List<Integer> order = Model.byRule(60, a, b, t, 20);
                    check.due("rule " + a + " " + b + " " + t, told(order).guess(60, 1), 10000 * a + 100 * b + t);
                    check.due("that alone", told(order).guess(60, 0), 1);
                }
            }
        }
        check.due("a 13", told(Model.byRule(60, 13, 5, 0, 20)).guess(60, 0), 0);
        check.due("b 13", told(Model.byRule(60, 5, 13, 0, 20)).guess(60, 0), 0);
        check.due("t 7", told(Model.byRule(60, 5, 4, 7, 20)).guess(60, 0), 0);
        check.due("t 7 is not told by 7", told(Model.byRule(60, 5, 4, 7, 7)).guess(60, 1), 50400);
        // Of like ones of least a + b + t; then of least a; then of least b.
        check.due("t is told by none of one going", told(4).guess(60, 0), 12 * 7);
        check.due("least b and t", told(4).guess(60, 1), 50100);
        // In a ring of 2, first 0: a is odd; then 1: any b and t.
        check.due("least a", told(0, 1).guess(2, 1), 10100);
        int[] found = plainest(5, List.of(2, 0, 4));
        check.due("like ones", told(2, 0, 4).guess(5, 1), found[1]);
        check.due("how many", told(2, 0, 4).guess(5, 0), found[0]);
        for (int n = 2; n <= 5; n++) {
            for (int first = 0; first < n; first++) {
                for (int second = 0; second < n; second++) {
                    int[] want = plainest(n, List.of(first, second));
                    check.due("how many " + n + " " + first + " " + second, told(first, second).guess(n, 0), want[0]);
                    check.due("plainest " + n + " " + first + " " + second, told(first, second).guess(n, 1), want[1]);
                }
            }
        }
    }

    /** Each order of three or four in a small ring, so that RULES that are found later are plainer, too. */
    private static void allSmallOrders() {
        for (int n = 5; n <= 6; n++) {
            for (int code = 0; code < n * n * n * n; code++) {
                List<Integer> order = new ArrayList<>(List.of(code % n, code / n % n, code / n / n % n, code / n / n / n));
                if (n == 5) {
                    order.remove(3);
                }
                if (code < n * n * n || n == 6) {
                    int[] want = plainest(n, order);
                    check.due("how many " + n + " " + order, told(order).guess(n, 0), want[0]);
                    check.due("plainest " + n + " " + order, told(order).guess(n, 1), want[1]);
                }
            }
        }
    }

    private static int[] plainest(int n, List<Integer> order) {
        int many = 0;
        int best = -1;
        int least = GREATEST;
        for (int a = 1; a <= 12; a++) {
            for (int b = 1; b <= 12; b++) {
                for (int t = 0; t <= 6; t++) {
                    if (Model.byRule(n, a, b, t, order.size()).equals(order)) {
                        many++;
                        int key = (a + b + t) * 10000 + a * 100 + b;
                        best = key < least ? 10000 * a + 100 * b + t : best;
                        least = Math.min(key, least);
                    }
                }
            }
        }
        return new int[] {many, best};
    }

    private static void promise27() {
        PostRing ring = new PostRing();
        for (int n : new int[] {0, -1, 61, LEAST, GREATEST}) {
            check.due("never n " + n, ring.never(n, 5), -1);
        }
        for (int m : new int[] {0, -1, 3001, LEAST, GREATEST}) {
            check.due("never m " + m, ring.never(5, m), -1);
        }
        check.due("one post", ring.never(1, 1), 0);
        check.due("n 60, m 1", ring.never(60, 1), (1L << 59) - 1);
        check.due("n 60, m 3000", ring.never(60, 3000), 0);
        check.due("n 3, m 1", ring.never(3, 1), 3);
        // Of 3 by 1 and 2 post 2 goes last, by 3 and 4 post 1, by 5 post 0.
        check.due("m 4", ring.never(3, 4), 1);
        check.due("m 5", ring.never(3, 5), 0);
        for (int n = 2; n <= 60; n += 29) {
            int ever = ring.ever(n);
            check.due("one less than ever", Long.bitCount(ring.never(n, ever - 1)), 1);
            check.due("ever", ring.never(n, ever), 0);
        }
    }

    private static int[] timesLast(int n, int m) {
        int[] times = new int[n];
        for (int k = 1; k <= m; k++) {
            times[Model.plain(n, k).get(n - 1)]++;
        }
        return times;
    }

    private static void promise28() {
        PostRing ring = new PostRing();
        for (int what = 0; what < 2; what++) {
            for (int n : new int[] {0, -1, 61, LEAST, GREATEST}) {
                check.due("often n " + n, ring.often(n, 5, what), -1);
            }
            for (int m : new int[] {0, -1, 3001, LEAST, GREATEST}) {
                check.due("often m " + m, ring.often(5, m, what), -1);
            }
        }
        for (int what : new int[] {-1, 2, LEAST, GREATEST}) {
            check.due("another what " + what, ring.often(5, 5, what), -1);
        }
        check.due("one post", ring.often(1, 3000, 0), 0);
        check.due("by 3000", ring.often(1, 3000, 1), 3000);
        check.due("m 1", ring.often(60, 1, 0) * 10 + ring.often(60, 1, 1), 591);
        // By 1 and 2 the post that goes last of 2 is 1, then 0: like ones.
        check.due("of like ones the first", ring.often(2, 2, 0), 0);
        check.due("by one each", ring.often(2, 2, 1), 1);
        check.due("1 by two of three", ring.often(2, 3, 0) * 10 + ring.often(2, 3, 1), 12);
        int[] times = timesLast(60, 3000);
        int most = 0;
        for (int post = 0; post < 60; post++) {
            most = times[post] > times[most] ? post : most;
        }
        check.due("n 60, m 3000", ring.often(60, 3000, 0), most);
        check.due("n 60, m 3000", ring.often(60, 3000, 1), times[most]);
        // By one k more, the one it keeps is kept once more.
        int last = Model.plain(7, 3000).get(6);
        check.due("3000 is among them", timesLast(7, 3000)[last], timesLast(7, 2999)[last] + 1);
        for (int m = 2995; m <= 3000; m++) {
            int[] ofSeven = timesLast(7, m);
            int best = 0;
            for (int post = 0; post < 7; post++) {
                best = ofSeven[post] > ofSeven[best] ? post : best;
            }
            check.due("n 7, m " + m, ring.often(7, m, 0), best);
            check.due("n 7, m " + m, ring.often(7, m, 1), ofSeven[best]);
        }
    }

    /** Of all rings that can be asked for, the one of 50 needs most numbers: 406. So 3000 are always enough. */
    private static void promise29() {
        PostRing ring = new PostRing();
        for (int n : new int[] {0, -1, 61, LEAST, GREATEST}) {
            check.due("ever n " + n, ring.ever(n), -1);
        }
        check.due("one post", ring.ever(1), 1);
        check.due("two posts", ring.ever(2), 2);
        int greatest = 0;
        for (int n = 1; n <= 60; n++) {
            long missing = (1L << n) - 1;
            int k = 0;
            while (missing != 0) {
                k++;
                missing &= ~(1L << Model.plain(n, k).get(n - 1));
            }
            check.due("ever " + n, ring.ever(n), k);
            greatest = Math.max(greatest, k);
        }
        check.due("the greatest", greatest, 406);
    }

    private static void promise30() {
        PostRing none = new PostRing();
        check.due("nothing is drawn", none.chance(5, 0, 0), -1);
        check.due("nothing is drawn", none.chance(5, 0, 1), -1);
        check.due("one is drawn", Check.ringOf("drawn 1 weight 1;").chance(1, 0, 0), 1);
        PostRing ring = Check.ringOf("drawn 2 weight 3;drawn 3 weight 1;drawn 5 weight 2;");
        for (int part = 0; part < 2; part++) {
            for (int n : new int[] {0, -1, 61, LEAST, GREATEST}) {
                check.due("chance n " + n, ring.chance(n, 0, part), -1);
            }
            for (int post : new int[] {-1, 5, 60, LEAST, GREATEST}) {
                check.due("chance post " + post, ring.chance(5, post, part), -1);
            }
        }
        for (int part : new int[] {-1, 2, LEAST, GREATEST}) {
            check.due("another part " + part, ring.chance(5, 0, part), -1);
        }
        fraction(ring, 1, 0, 1, 1);
        fraction(ring, 60, 59, 0, 1);
        check.due("post 60 of 60", ring.chance(60, 60, 0), -1);
        // Of 2 by 2 it is 0, by 3 and 5 it is 1.
        fraction(ring, 2, 0, 1, 2);
        fraction(ring, 2, 1, 1, 2);
        fraction(Check.ringOf("drawn 2 weight 3;drawn 3 weight 1;"), 2, 0, 3, 4);
        StringBuilder most = new StringBuilder();
        for (int i = 0; i < 12; i++) {
            most.append("drawn ").append(i + 1).append(" weight ").append(i == 11 ? 98 : 99).append(';');
        }
        PostRing full = Check.ringOf(most.toString());
        // By even numbers 0 is last of 2: five times 99 and 98, of 12 * 99 - 1.
        fraction(full, 2, 0, 5 * 99 + 98, 12 * 99 - 1);
        fraction(full, 1, 0, 1, 1);
    }

    private static void fraction(PostRing ring, int n, int post, int upper, int lower) {
        check.due("upper part " + n + " " + post, ring.chance(n, post, 0), upper);
        check.due("lower part " + n + " " + post, ring.chance(n, post, 1), lower);
    }

    private static PostRing crowd() {
        StringBuilder text = new StringBuilder("drawn 1 weight 1;drawn 2 weight 2;");
        for (int i = 0; i < 9; i++) {
            text.append("person ").append((char) ('a' + i)).append(" worth ").append(111 * (i + 1)).append(';');
        }
        return Check.ringOf(text.toString());
    }

    private static void promise31() {
        check.due("no person", Check.ringOf("drawn 1 weight 1;").choice(5, 0), -1);
        check.due("nothing is drawn", Check.ringOf("person a worth 1;").choice(5, 0), -1);
        PostRing ring = crowd();
        for (int n : new int[] {0, -1, 61, LEAST, GREATEST}) {
            check.due("choice n " + n, ring.choice(n, 0), -1);
        }
        for (int person : new int[] {-1, 9, LEAST, GREATEST}) {
            check.due("no such person " + person, ring.choice(60, person), -1);
        }
        // Of 5 by 2 the last is 2, by 1 it is 4; then those of no chance, the first ahead.
        int[] posts = {2, 4, 0, 1, 3};
        for (int person = 0; person < 9; person++) {
            check.due("person " + person, ring.choice(5, person), person < 5 ? posts[person] : -1);
        }
        check.due("the ninth of nine", ring.choice(9, 8) >= 0, true);
        check.due("the ninth of eight", ring.choice(8, 8), -1);
        check.due("the ninth of seven", ring.choice(7, 8), -1);
        check.due("the first of one", ring.choice(1, 0), 0);
        check.due("the second of one", ring.choice(1, 1), -1);
        check.due("n 60", ring.choice(60, 1), 59);
        check.due("of like ones the first", Check.ringOf("drawn 1 weight 5;drawn 2 weight 5;person a worth 1;").choice(2, 0), 0);
        check.due("the greater chance", Check.ringOf("drawn 1 weight 6;drawn 2 weight 5;person a worth 1;").choice(2, 0), 1);
        // Two numbers that keep one post weigh together.
        check.due("together", Check.ringOf("drawn 2 weight 6;drawn 1 weight 4;drawn 3 weight 3;person a worth 1;").choice(2, 0), 1);
    }

    private static void promise32() {
        check.due("no person", Check.ringOf("drawn 1 weight 1;").expected(5, 0, 0), -1);
        check.due("nothing is drawn", Check.ringOf("person a worth 1;").expected(5, 0, 0), -1);
        PostRing ring = crowd();
        for (int part = 0; part < 2; part++) {
            for (int n : new int[] {0, -1, 61, LEAST, GREATEST}) {
                check.due("expected n " + n, ring.expected(n, 0, part), -1);
            }
            for (int person : new int[] {-1, 9, LEAST, GREATEST}) {
                check.due("no such person " + person, ring.expected(60, person, part), -1);
            }
            check.due("the sixth of five", ring.expected(5, 5, part), -1);
            check.due("the second of one", ring.expected(1, 1, part), -1);
        }
        for (int part : new int[] {-1, 2, LEAST, GREATEST}) {
            check.due("another part " + part, ring.expected(5, 0, part), -1);
        }
        check.due("111 * 2 / 3", ring.expected(5, 0, 0) * 100 + ring.expected(5, 0, 1), 7401);
        check.due("222 / 3", ring.expected(5, 1, 0) * 100 + ring.expected(5, 1, 1), 7401);
        check.due("333 * 0", ring.expected(5, 2, 0) * 100 + ring.expected(5, 2, 1), 1);
        check.due("the fifth of five", ring.expected(5, 4, 0) * 100 + ring.expected(5, 4, 1), 1);
        check.due("one post", ring.expected(1, 0, 0) * 100 + ring.expected(1, 0, 1), 11101);
        PostRing thirds = Check.ringOf("drawn 1 weight 1;drawn 2 weight 2;person a worth 10;person b worth 0;");
        check.due("10 * 2 / 3", thirds.expected(5, 0, 0) * 100 + thirds.expected(5, 0, 1), 2003);
        check.due("worth 0", thirds.expected(5, 1, 0) * 100 + thirds.expected(5, 1, 1), 1);
        StringBuilder most = new StringBuilder("person a worth 998;");
        for (int i = 0; i < 12; i++) {
            most.append("drawn ").append(2 * i + 1 + (i == 11 ? 1 : 0)).append(" weight ").append(i == 11 ? 98 : 99).append(';');
        }
        // Odd numbers keep 1 of 2: eleven times 99, of 1187, which is prime.
        PostRing great = Check.ringOf(most.toString());
        check.due("upper part", great.expected(2, 0, 0), 998 * 11 * 99);
        check.due("lower part", great.expected(2, 0, 1), 1187);
    }
}

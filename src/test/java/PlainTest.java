import java.util.List;
import java.util.Random;

/** Promises 20 to 32: plain rings, against rings gone through one by one. */
public final class PlainTest {
    private static final Check check = new Check("PlainTest");

    public static void main(String[] args) {
        far();
        farWrong();
        largeRings();
        size();
        keepsAndFirst();
        number();
        numberEdges();
        guess();
        guessEdges();
        neverOftenEver();
        chances();
        chanceEdges();
        check.close();
    }

    private static void far() {
        int[] steps = {1, 2, 3, 7, 60, 61, 999, 1000};
        for (int n = 1; n <= 70; n++) {
            for (int k : steps) {
                List<Integer> order = Model.plain(n, k);
                PostRing ring = new PostRing();
                for (int m = 1; m <= n; m++) {
                    int post = order.get(m - 1);
                    check.due("far " + n + " " + k + " " + m, ring.far(n, k, m), post);
                    check.due("at " + n + " " + k + " " + post, ring.at(n, k, post), m);
                }
            }
        }
    }

    private static void farWrong() {
        PostRing ring = new PostRing();
        long most = 1000000000000L;
        check.due("far n 0", ring.far(0, 3, 1), -1);
        check.due("far n -1", ring.far(-1, 3, -1), -1);
        check.due("far n most + 1", ring.far(most + 1, 3, 1), -1);
        check.due("far n greatest", ring.far(Long.MAX_VALUE, 3, 1), -1);
        check.due("far k 0", ring.far(5, 0, 1), -1);
        check.due("far k 1001", ring.far(5, 1001, 1), -1);
        check.due("far m 0", ring.far(5, 3, 0), -1);
        check.due("far m 6", ring.far(5, 3, 6), -1);
        check.due("far k 1000", ring.far(most, 1000, 1), 999);
        check.due("far k 1", ring.far(most, 1, most), most - 1);
        check.due("at n 0", ring.at(0, 3, 0), -1);
        check.due("at n most + 1", ring.at(most + 1, 3, 0), -1);
        check.due("at k 0", ring.at(5, 0, 1), -1);
        check.due("at k 1001", ring.at(5, 1001, 1), -1);
        check.due("at post -1", ring.at(5, 3, -1), -1);
        check.due("at post 5", ring.at(5, 3, 5), -1);
        check.due("at post most - 1", ring.at(most, 1, most - 1), most);
        check.due("at least", ring.at(Long.MIN_VALUE, Integer.MIN_VALUE, Long.MIN_VALUE), -1);
    }

    /** The law: who goes as the m-th of n is k further on than who goes as the m - 1-th of n - 1. */
    private static void largeRings() {
        PostRing ring = new PostRing();
        Random random = new Random(20);
        for (int i = 0; i < 300; i++) {
            ring = i % 100 == 0 ? new PostRing() : ring;
            long n = i == 0 ? 1000000000000L : 2 + (long) (random.nextDouble() * 999999999998L);
            int k = i < 3 ? 1000 : 1 + random.nextInt(1000);
            long m = i < 2 ? n : 2 + (long) (random.nextDouble() * (n - 2));
            long post = ring.far(n, k, m);
            check.due("far " + n + " " + k + " " + m, post, (ring.far(n - 1, k, m - 1) + k) % n);
            check.due("at " + n + " " + k + " " + post, ring.at(n, k, post), m);
        }
        // The last by twos: the number's highest one goes behind its lowest.
        for (long n = 1; n <= 1000000000000L; n = n * 3 + 1) {
            check.due("far by 2 of " + n, ring.far(n, 2, n), 2 * (n - Long.highestOneBit(n)));
        }
    }

    private static void size() {
        PostRing ring = new PostRing();
        int[][] cases = {{1, 4999}, {3, 3}, {2, 0}, {2, 4998}, {1000, 7}, {5, 4999}, {2, 4999}};
        for (int[] one : cases) {
            int seen = 0;
            int last = 0;
            for (int n = 1; n <= 5000; n++) {
                last = (last + one[0]) % n;
                if (last == one[1]) {
                    check.due("size " + one[0] + " " + one[1] + " " + seen, ring.size(one[0], one[1], seen), n);
                    seen++;
                }
            }
            check.due("size " + one[0] + " " + one[1] + " " + seen, ring.size(one[0], one[1], seen), -1);
        }
        // Who is last of 5001 tells a size that is too great to be asked for.
        for (int k = 2; k < 20; k++) {
            int beyond = Model.plain(5001, k).get(5000);
            int seen = 0;
            int last = 0;
            for (int n = 1; n <= 5000; n++) {
                last = (last + k) % n;
                seen += last == beyond ? 1 : 0;
            }
            check.due("size " + k + " " + beyond + " of 5001", ring.size(k, beyond, seen), -1);
        }
        check.due("size of 1 post", ring.size(999, 0, 0), 1);
        check.due("size last", ring.size(1, 4999, 0), 5000);
        check.due("size k 0", ring.size(0, 0, 0), -1);
        check.due("size k 1001", ring.size(1001, 0, 0), -1);
        check.due("size post -1", ring.size(3, -1, 0), -1);
        check.due("size post 5000", ring.size(3, 5000, 0), -1);
        check.due("size i -1", ring.size(3, 0, -1), -1);
        check.due("size i greatest", ring.size(3, 0, Integer.MAX_VALUE), -1);
    }

    private static void keepsAndFirst() {
        Random random = new Random(23);
        for (int i = 0; i < 120; i++) {
            PostRing ring = new PostRing();
            int n = 1 + random.nextInt(i % 4 == 0 ? 60 : 9);
            int many = 1 + random.nextInt(n);
            // Mostly a set that some k makes, so that there is something to find.
            List<Integer> order = Model.plain(n, 1 + random.nextInt(3200));
            long lastOnes = setOf(order, n - many, n);
            long firstOnes = setOf(order, 0, many);
            check.due("keeps " + n + " " + lastOnes, ring.keeps(n, lastOnes), leastK(n, lastOnes, true));
            check.due("first " + n + " " + firstOnes, ring.first(n, firstOnes), leastK(n, firstOnes, false));
        }
        PostRing ring = new PostRing();
        check.due("keeps all 60", ring.keeps(60, (1L << 60) - 1), 1);
        check.due("first all 60", ring.first(60, (1L << 60) - 1), 1);
        // By just this k of all up to it, so that one more is beyond what is looked at.
        for (int k = 2999; k <= 3001; k++) {
            long goers = setOf(Model.plain(60, k), 0, 6);
            check.due("first by " + k, ring.first(60, goers), k <= 3000 ? k : -1);
            check.due("keeps by " + k, ring.keeps(60, (1L << 60) - 1 & ~goers), k <= 3000 ? k : -1);
        }
        check.due("keeps by none", ring.keeps(60, 0x3333333L << 3), -1);
        check.due("first by none", ring.first(60, 0x3333333L << 3), -1);
        for (int n : new int[] {0, -1, 61, 64, Integer.MAX_VALUE, Integer.MIN_VALUE}) {
            check.due("keeps n " + n, ring.keeps(n, 1), -1);
            check.due("first n " + n, ring.first(n, 1), -1);
        }
        for (long set : new long[] {0, 32, 33, -1, Long.MIN_VALUE, Long.MIN_VALUE | 1}) {
            check.due("keeps set " + set, ring.keeps(5, set), -1);
            check.due("first set " + set, ring.first(5, set), -1);
        }
    }

    private static long setOf(List<Integer> order, int from, int to) {
        long set = 0;
        for (int post : order.subList(from, to)) {
            set |= 1L << post;
        }
        return set;
    }

    private static int leastK(int n, long set, boolean last) {
        int many = Long.bitCount(set);
        for (int k = 1; k <= 3000; k++) {
            List<Integer> order = Model.plain(n, k);
            if (set == (last ? setOf(order, n - many, n) : setOf(order, 0, many))) {
                return k;
            }
        }
        return -1;
    }

    private static PostRing told(List<Integer> order) {
        PostRing ring = new PostRing();
        for (int post : order) {
            ring.order(post);
        }
        return ring;
    }

    private static void number() {
        Random random = new Random(25);
        for (int i = 0; i < 200; i++) {
            int n = 1 + random.nextInt(9);
            List<Integer> order = Model.plain(n, 1 + random.nextInt(2520));
            int many = 1 + random.nextInt(n);
            if (random.nextInt(3) == 0) {
                java.util.Collections.swap(order, random.nextInt(n), random.nextInt(n));
            }
            order = order.subList(0, many);
            PostRing ring = told(order);
            int asked = Math.min(8, many);
            long found = -1;
            for (int k = 1; k <= 2520 && found < 0; k++) {
                found = Model.plain(n, k).subList(0, asked).equals(order.subList(0, asked)) ? k : -1;
            }
            check.due("number " + n + " " + order, ring.number(n), found);
        }
        for (int i = 0; i < 100; i++) {
            int n = 50 + random.nextInt(11);
            int k = 1 + random.nextInt(2000000000);
            PostRing ring = told(Model.plain(n, k).subList(0, 8));
            check.due("number " + n + " by " + k, ring.number(n), k % leastCommon(n));
        }
    }

    private static long leastCommon(int n) {
        long all = 1;
        for (int i = n; i > n - 8; i--) {
            long a = all;
            long b = i;
            while (b != 0) {
                long rest = a % b;
                a = b;
                b = rest;
            }
            all = all / a * i;
        }
        return all;
    }

    private static void numberEdges() {
        PostRing ring = new PostRing();
        check.due("number of no order", ring.number(5), -1);
        // Each time the last who is counted: k is 0 by all of 60, 59, .. 53.
        ring = told(List.of(59, 58, 57, 56, 55, 54, 53, 52));
        check.due("the greatest number", ring.number(60), leastCommon(60));
        check.due("order", ring.order(52), 9);
        check.due("the ninth is not asked", ring.number(60), leastCommon(60));
        check.due("n 0", ring.number(0), -1);
        check.due("n 61", ring.number(61), -1);
        check.due("n below 0", ring.number(Integer.MIN_VALUE), -1);
        check.due("a post beyond the ring", ring.number(59), -1);
        ring = told(List.of(2, 2));
        check.due("a post twice", ring.number(5), -1);
        ring = told(List.of(0, 1));
        check.due("more posts than there are", ring.number(1), -1);
        ring = told(List.of(0));
        check.due("one post", ring.number(1), 1);
        // 4 stand: k is odd; 2 stand: k must be even.
        ring = told(List.of(0, 1, 3));
        check.due("remainders that do not go together", ring.number(4), -1);
    }

    private static void guess() {
        Random random = new Random(26);
        for (int i = 0; i < 160; i++) {
            int n = 1 + random.nextInt(i % 3 == 0 ? 60 : 8);
            int many = 1 + random.nextInt(i % 2 == 0 ? n : Math.min(n, 4));
            List<Integer> order = Model.byRule(n, 1 + random.nextInt(12), 1 + random.nextInt(12), random.nextInt(7), many);
            if (random.nextInt(5) == 0) {
                order.set(many - 1, random.nextInt(60));
            }
            PostRing ring = told(order);
            int found = 0;
            int plainest = -1;
            int least = 99999999;
            for (int a = 1; a <= 12; a++) {
                for (int b = 1; b <= 12; b++) {
                    for (int t = 0; t <= 6; t++) {
                        int key = (a + b + t) * 10000 + a * 100 + b;
                        if (Model.byRule(n, a, b, t, many).equals(order)) {
                            found++;
                            if (key < least) {
                                least = key;
                                plainest = 10000 * a + 100 * b + t;
                            }
                        }
                    }
                }
            }
            check.due("guess " + n + " 0 " + order, ring.guess(n, 0), found);
            check.due("guess " + n + " 1 " + order, ring.guess(n, 1), plainest);
        }
    }

    private static void guessEdges() {
        PostRing ring = new PostRing();
        check.due("no order", ring.guess(5, 0), 0);
        check.due("no order", ring.guess(5, 1), -1);
        ring = told(List.of(0));
        check.due("one post", ring.guess(1, 0), 12 * 12 * 7);
        check.due("one post", ring.guess(1, 1), 10100);
        check.due("n 0", ring.guess(0, 0), -1);
        check.due("n 61", ring.guess(61, 0), -1);
        check.due("what 2", ring.guess(5, 2), -1);
        check.due("what -1", ring.guess(5, -1), -1);
        ring = told(List.of(0, 1));
        check.due("longer than n", ring.guess(1, 0), 0);
        check.due("longer than n", ring.guess(1, 1), -1);
        ring = told(List.of(59));
        check.due("by none", ring.guess(60, 0), 0);
        check.due("beyond n", ring.guess(5, 0), 0);
    }

    private static void neverOftenEver() {
        int[] steps = {1, 2, 17, 300, 2999, 3000};
        PostRing ring = new PostRing();
        for (int n = 1; n <= 60; n += n < 12 ? 1 : 12) {
            int[] times = new int[n];
            int ever = -1;
            int next = 0;
            long missing = (1L << n) - 1;
            for (int k = 1; k <= 3000; k++) {
                int last = Model.plain(n, k).get(n - 1);
                times[last]++;
                missing &= ~(1L << last);
                ever = ever < 0 && missing == 0 ? k : ever;
                if (k == steps[next]) {
                    next++;
                    int most = 0;
                    for (int post = 0; post < n; post++) {
                        most = times[post] > times[most] ? post : most;
                    }
                    check.due("never " + n + " " + k, ring.never(n, k), missing);
                    check.due("often " + n + " " + k + " 0", ring.often(n, k, 0), most);
                    check.due("often " + n + " " + k + " 1", ring.often(n, k, 1), times[most]);
                }
            }
            check.due("ever " + n, ring.ever(n), ever);
        }
        int[][] wrong = {{0, 1}, {61, 1}, {5, 0}, {5, 3001}, {-1, -1}, {Integer.MIN_VALUE, Integer.MAX_VALUE}};
        for (int[] one : wrong) {
            check.due("never " + one[0] + " " + one[1], ring.never(one[0], one[1]), -1);
            check.due("often " + one[0] + " " + one[1], ring.often(one[0], one[1], 0), -1);
            check.due("often " + one[0] + " " + one[1], ring.often(one[0], one[1], 1), -1);
        }
        check.due("often what 2", ring.often(5, 5, 2), -1);
        check.due("often what -1", ring.often(5, 5, -1), -1);
        check.due("ever 0", ring.ever(0), -1);
        check.due("ever 61", ring.ever(61), -1);
    }

    private static void chances() {
        Random random = new Random(30);
        for (int i = 0; i < 80; i++) {
            int drawn = 1 + random.nextInt(12);
            int persons = random.nextInt(10);
            int n = 1 + random.nextInt(i % 2 == 0 ? 60 : 6);
            StringBuilder text = new StringBuilder();
            int[] weights = new int[n];
            int sum = 0;
            for (int j = 0; j < drawn; j++) {
                int k = 1 + j * 80 + random.nextInt(80);
                int weight = 1 + random.nextInt(99);
                text.append("drawn ").append(k).append(" weight ").append(weight).append(';');
                weights[Model.plain(n, k).get(n - 1)] += weight;
                sum += weight;
            }
            int[] worths = new int[persons];
            for (int j = 0; j < persons; j++) {
                worths[j] = random.nextInt(1000);
                text.append("person ").append((char) ('a' + j)).append(" worth ").append(worths[j]).append(';');
            }
            PostRing ring = Check.ringOf(text.toString());
            check.due("about(3)", ring.about(3), persons);
            check.due("about(4)", ring.about(4), drawn);
            for (int post = 0; post < n; post++) {
                fraction("chance " + n + " " + post, ring.chance(n, post, 0), ring.chance(n, post, 1), weights[post], sum);
            }
            choices(ring, n, weights, sum, worths);
        }
    }

    private static void choices(PostRing ring, int n, int[] weights, int sum, int[] worths) {
        for (int person = 0; person < worths.length; person++) {
            int best = -1;
            for (int post = 0; post < n; post++) {
                if (weights[post] >= 0 && (best < 0 || weights[post] > weights[best])) {
                    best = post;
                }
            }
            check.due("choice " + n + " " + person, ring.choice(n, person), best);
            if (best < 0) {
                check.due("expected", ring.expected(n, person, 0), -1);
                check.due("expected", ring.expected(n, person, 1), -1);
            } else {
                fraction("expected " + n + " " + person, ring.expected(n, person, 0),
                    ring.expected(n, person, 1), worths[person] * weights[best], sum);
                weights[best] = -1;
            }
        }
        check.due("no such person", ring.choice(n, worths.length), -1);
        check.due("no such person", ring.expected(n, worths.length, 0), -1);
    }

    private static void fraction(String name, int upper, int lower, int wantUpper, int wantLower) {
        check.due(name + " is the fraction", (long) upper * wantLower, (long) wantUpper * lower);
        int common = java.math.BigInteger.valueOf(upper).gcd(java.math.BigInteger.valueOf(lower)).intValue();
        check.due(name + " is in lowest terms", common, 1);
    }

    private static void chanceEdges() {
        PostRing ring = Check.ringOf("drawn 2 weight 3;drawn 3 weight 1;person p worth 10;person q worth 0;");
        check.due("no chance", ring.chance(9, 8, 0), 0);
        check.due("no chance", ring.chance(9, 8, 1), 1);
        check.due("worth nothing", ring.expected(2, 1, 0), 0);
        check.due("worth nothing", ring.expected(2, 1, 1), 1);
        int[][] wrong = {{0, 0, 0}, {61, 0, 0}, {5, -1, 0}, {5, 5, 0}, {5, 0, 2}, {5, 0, -1}};
        for (int[] one : wrong) {
            check.due("chance " + one[0] + " " + one[1] + " " + one[2], ring.chance(one[0], one[1], one[2]), -1);
            check.due("expected " + one[0] + " " + one[1] + " " + one[2], ring.expected(one[0], one[1], one[2]), -1);
        }
        check.due("choice n 0", ring.choice(0, 0), -1);
        check.due("choice n 61", ring.choice(61, 0), -1);
        check.due("choice person -1", ring.choice(5, -1), -1);
        check.due("choice person 2", ring.choice(5, 2), -1);
        check.due("no post for the second", ring.choice(1, 1), -1);
        check.due("of like chance the first", Check.ringOf("drawn 3 weight 1;person a worth 1;person b worth 1;").choice(5, 1), 0);
        PostRing undrawn = Check.ringOf("person p worth 10;");
        check.due("nothing drawn", undrawn.chance(5, 0, 0), -1);
        check.due("nothing drawn", undrawn.choice(5, 0), -1);
        check.due("nothing drawn", undrawn.expected(5, 0, 0), -1);
    }
}

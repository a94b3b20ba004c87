/** Counts answers that are not as due; each test closes with it. */
final class Check {
    private final String name;
    private int checks;
    private int wrong;

    Check(String name) {
        this.name = name;
    }

    void due(String call, long got, long want) {
        checks++;
        if (got != want) {
            wrong++;
            System.out.println(name + ": " + call + " answered " + got + ", due is " + want);
        }
    }

    void due(String call, boolean got, boolean want) {
        due(call, got ? 1L : 0L, want ? 1L : 0L);
    }

    void same(String call, String got, String want) {
        checks++;
        if (!got.equals(want)) {
            wrong++;
            System.out.println(name + ": " + call + " answered\n  " + got + "\n  due is\n  " + want);
        }
    }

    /** A text that is no ring, by this fault at this place. */
    void faulty(String text, int fault, int place) {
        PostRing ring = new PostRing();
        put(ring, text);
        due("ring() of '" + text + "'", ring.ring(), -1);
        due("fault(0) of '" + text + "'", ring.fault(0), fault);
        due("fault(1) of '" + text + "'", ring.fault(1), place);
    }

    /** A text that is a ring of so many posts. */
    void fine(String text, int posts) {
        PostRing ring = new PostRing();
        put(ring, text);
        due("ring() of '" + text + "'", ring.ring(), posts);
        due("fault(0) of '" + text + "'", ring.fault(0), 0);
        due("fault(1) of '" + text + "'", ring.fault(1), -1);
    }

    void close() {
        System.out.println(name + ": " + checks + " checks, " + wrong + " wrong");
        if (wrong != 0 || checks == 0) {
            System.exit(1);
        }
    }

    /** Puts a text on the tape, which must be empty. */
    static void put(PostRing ring, String text) {
        int fed = 0;
        for (int i = 0; i < text.length(); i += 20) {
            fed = ring.feed(four(text, i), four(text, i + 4), four(text, i + 8),
                four(text, i + 12), four(text, i + 16));
        }
        if (fed < text.length() || ring.end(text.length()) != text.length()) {
            throw new IllegalStateException("the tape does not take " + text);
        }
    }

    private static int four(String text, int from) {
        int bytes = 0;
        for (int i = from; i < from + 4; i++) {
            bytes = bytes << 8 | (i < text.length() ? text.charAt(i) : 0);
        }
        return bytes;
    }

    static PostRing ringOf(String text) {
        PostRing ring = new PostRing();
        put(ring, text);
        if (ring.ring() == PostRing.NONE) {
            throw new IllegalStateException("fault " + ring.fault(0) + " at " + ring.fault(1) + " in " + text);
        }
        return ring;
    }

    static long bits(int... posts) {
        long set = 0;
        for (int post : posts) {
            set |= 1L << post;
        }
        return set;
    }
}

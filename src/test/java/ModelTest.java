import java.util.Random;

/** Promises 4 and 6 to 19 and 38 to 40 on rings drawn at random, against the literal model. */
public final class ModelTest {
    private static final Check check = new Check("ModelTest");
    // Told one ring behind the other, so that nothing of an earlier one may be left.
    private static PostRing ring;

    public static void main(String[] args) {
        for (int seed = 0; seed < 400; seed++) {
            compare(seed, seed % 10 == 0 ? 60 : 14);
        }
        check.close();
    }

    private static void compare(int seed, int mostPosts) {
        RandomRing drawn = new RandomRing(seed, mostPosts);
        String name = seed + " " + drawn.text + ": ";
        Model model = drawn.model;
        // Two rings an object, since it is used for no more than 512 calls.
        if (seed % 2 == 0) {
            ring = new PostRing();
        } else if (seed % 4 == 1) {
            // A fault behind much that was told leaves nothing of it.
            Check.put(ring, "turn 2;again 3;boy 1;guard 0 to 9;rhyme a b;count 7;begin 4;left 5;stand 9;$");
            check.due(name + "a fault", ring.ring(), -1);
        }
        Check.put(ring, drawn.text);
        check.due(name + "ring()", ring.ring(), model.posts);
        check.due(name + "fault(0)", ring.fault(0), 0);
        check.due(name + "about(9)", ring.about(9), drawn.units);
        Random random = new Random(seed);
        Model.State state = model.start();
        Model.State[] boxes = new Model.State[3];
        for (int round = 0; round < 5; round++) {
            compareState(name, ring, model, state, random);
            compareAhead(name, ring, model, state, random);
            int box = random.nextInt(3);
            if (random.nextInt(3) == 0) {
                check.due(name + "image", ring.image(box), state.goings);
                boxes[box] = state.copy();
            }
            int goings = random.nextInt(round == 3 ? 1001 : 2 + model.posts / 3);
            check.due(name + "go " + goings, ring.go(goings), model.go(state, goings, model.left));
            box = random.nextInt(3);
            if (random.nextInt(4) == 0) {
                check.due(name + "back", ring.back(box), boxes[box] == null ? -1 : boxes[box].goings);
                state = boxes[box] == null ? state : boxes[box].copy();
            }
        }
        compareState(name, ring, model, state, random);
        compareFirst(name, ring, model, random);
    }

    private static void compareState(String name, PostRing ring, Model model, Model.State state, Random random) {
        check.due(name + "about(1)", ring.about(1), state.here());
        check.due(name + "about(2)", ring.about(2), state.goings);
        check.due(name + "about(10)", ring.about(10), state.boyAt[0]);
        check.due(name + "about(11)", ring.about(11), state.boyAt[1]);
        check.due(name + "about(12)", ring.about(12), state.turned ? 1 : 0);
        int from = random.nextInt(model.posts);
        for (int post = from; post < model.posts && post < from + 5; post++) {
            check.due(name + "post 0", ring.post(post, 0), state.stands[post] ? 1 : 0);
            check.due(name + "post 1", ring.post(post, 1), state.hits[post]);
            check.due(name + "post 2", ring.post(post, 2), state.wentIn[post]);
        }
        int gone = state.went.size();
        for (int i = Math.max(0, gone - 4); i < gone; i++) {
            check.due(name + "went", ring.went(i), state.went.get(i));
        }
        check.due(name + "went", ring.went(gone), -1);
    }

    private static void compareAhead(String name, PostRing ring, Model model, Model.State state, Random random) {
        Model.State end = model.toEnd(state);
        check.due(name + "left()", ring.left(), end.bits());
        int post = random.nextInt(model.posts);
        check.due(name + "when " + post, ring.when(post), state.stands[post] ? end.wentIn[post] : -1);
        int late = random.nextInt(random.nextBoolean() ? 301 : 10);
        check.due(name + "late " + late, ring.late(late), model.late(state, late));
        check.due(name + "bribe " + post, ring.bribe(post), model.bribe(state, post));
        int m = 1 + random.nextInt(random.nextBoolean() ? 59 : 3);
        Model.State stay = state.copy();
        model.go(stay, Integer.MAX_VALUE, m);
        check.due(name + "stay " + m, ring.stay(m), stay.bits());
        check.due(name + "meet()", ring.meet(), model.meet(state));
    }

    private static void compareFirst(String name, PostRing ring, Model model, Random random) {
        int post = random.nextInt(model.posts);
        check.due(name + "begins " + post, ring.begins(post), model.begins(post));
        long set = 1L << post | 1L << random.nextInt(model.posts);
        check.due(name + "chooses " + set, ring.chooses(set), model.chooses(set));
        Model.State end = model.toEnd(model.start());
        int wrong = -1;
        for (int i = 0; i < end.went.size() + random.nextInt(2); i++) {
            int told = i < end.went.size() && random.nextInt(30) > 0 ? end.went.get(i) : random.nextInt(60);
            if (wrong < 0 && (i >= end.went.size() || told != end.went.get(i))) {
                wrong = i;
            }
            check.due(name + "order", ring.order(told), i + 1);
        }
        check.due(name + "judge()", ring.judge(), wrong);
    }
}

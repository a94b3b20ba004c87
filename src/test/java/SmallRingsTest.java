import java.util.Random;

/** ==== 2 on all small rings of some settings, at each of their goings, against the literal model. */
public final class SmallRingsTest {
    private static final Check check = new Check("SmallRingsTest");

    public static void main(String[] args) {
        for (int posts = 1; posts <= 5; posts++) {
            for (int count : new int[] {1, 2, 3, 7}) {
                for (int boy : new int[] {-1, 0, posts - 1}) {
                    for (int turn = 0; turn <= 2; turn++) {
                        for (int again = 0; again <= 1; again++) {
                            for (int guard = -1; guard < posts; guard += posts) {
                                compare(ringOf(posts, count, boy, turn, again, guard));
                            }
                        }
                    }
                }
            }
        }
        check.close();
    }

    private static Model ringOf(int posts, int count, int boy, int turn, int again, int guard) {
        Model model = new Model();
        model.posts = posts;
        model.boy = boy;
        model.turn = turn;
        model.again = again;
        model.left = 1 + (count + turn) % 2;
        model.begin = (count + again) % posts;
        if (guard >= 0) {
            model.guarded[guard] = true;
        }
        model.count = (m, s) -> count + s.here() * (s.goings % 3) - s.last;
        model.words = count;
        return model;
    }

    private static PostRing tell(Model model) {
        StringBuilder text = new StringBuilder("stand " + model.posts + ";begin " + model.begin + ";left " + model.left
            + ";again " + model.again + ";rhyme " + "a ".repeat(model.words) + ";count words+here*(going-going/3*3)-last;");
        text.append(model.turn > 0 ? "turn " + model.turn + ";" : "").append(model.boy >= 0 ? "boy " + model.boy + ";" : "");
        for (int post = 0; post < model.posts; post++) {
            text.append(model.guarded[post] ? "guard " + post + " to " + post + ";" : "");
        }
        return Check.ringOf(text.toString());
    }

    private static void compare(Model model) {
        Model.State state = model.start();
        int last = model.toEnd(state).goings;
        String name = "posts " + model.posts + " boy " + model.boy + " turn " + model.turn + " again " + model.again
            + " words " + model.words;
        for (int goings = 0; goings <= last; goings++) {
            PostRing ring = tell(model);
            check.due(name + " go", ring.go(goings), goings);
            compareAhead(name + " behind " + goings + ": ", ring, model, state);
            model.go(state, 1, model.left);
        }
        PostRing ring = tell(model);
        check.due(name + " no more", ring.go(1000), last);
        compareFirst(name + ": ", ring, model);
    }

    private static void compareAhead(String name, PostRing ring, Model model, Model.State state) {
        Model.State end = model.toEnd(state);
        check.due(name + "stand", ring.about(1), state.here());
        check.due(name + "turned", ring.about(12), state.turned ? 1 : 0);
        check.due(name + "first", ring.about(10), state.boyAt[0]);
        check.due(name + "second", ring.about(11), state.boyAt[1]);
        check.due(name + "left", ring.left(), end.bits());
        check.due(name + "meet", ring.meet(), model.meet(state));
        for (int post = 0; post < model.posts; post++) {
            check.due(name + "hits " + post, ring.post(post, 1), state.hits[post]);
            check.due(name + "went in " + post, ring.post(post, 2), state.wentIn[post]);
            check.due(name + "when " + post, ring.when(post), state.stands[post] ? end.wentIn[post] : -1);
            check.due(name + "bribe " + post, ring.bribe(post), model.bribe(state, post));
        }
        for (int n = 0; n <= 3; n++) {
            check.due(name + "late " + n, ring.late(n), model.late(state, n));
            Model.State stay = state.copy();
            model.go(stay, Integer.MAX_VALUE, n + 1);
            check.due(name + "stay " + (n + 1), ring.stay(n + 1), stay.bits());
        }
    }

    private static void compareFirst(String name, PostRing ring, Model model) {
        Random random = new Random(name.hashCode());
        for (int post = 0; post < model.posts; post++) {
            check.due(name + "begins " + post, ring.begins(post), model.begins(post));
        }
        long set = 1 + random.nextInt((1 << model.posts) - 1);
        check.due(name + "chooses " + set, ring.chooses(set), model.chooses(set));
        Model.State end = model.toEnd(model.start());
        check.due(name + "nothing told", ring.judge(), -1);
        for (int i = 0; i < end.went.size(); i++) {
            ring.order(end.went.get(i));
            check.due(name + "right", ring.judge(), -1);
        }
        ring.order(0);
        check.due(name + "one more than go", ring.judge(), end.went.size());
    }
}

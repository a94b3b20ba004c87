import java.util.List;

/** ==== 2 and promises 6 to 19 and 38 to 40, boundary by boundary; each check names its sentence. */
public final class EdgesOfGoingTest {
    private static final Check check = new Check("EdgesOfGoingTest");
    private static final int LEAST = Integer.MIN_VALUE;
    private static final int GREATEST = Integer.MAX_VALUE;

    public static void main(String[] args) {
        intsThatWrap();
        divisions();
        truths();
        madeInBounds();
        whatIsNamed();
        roundAndRound();
        whereEachGoesOn();
        otherWayAbout();
        hitsTillOneGoes();
        whereItEnds();
        promise6();
        promise7();
        promise8();
        promise9();
        promise10();
        promise11();
        promise12();
        promise13();
        promise14();
        promise15();
        promise16();
        promise17();
        promise18();
        promise19();
        promise38();
        promise39();
        promise40();
        check.close();
    }

    /** What is counted in the first going, modulo 60: who is hit in a ring of 60 tells it. */
    private static void counted(String e, int want) {
        PostRing ring = Check.ringOf("stand 60;count " + e + ";");
        ring.go(1);
        check.due("count " + e, ring.about(10), (want - 1) % 60);
    }

    private static void intsThatWrap() {
        counted("8192*8192*64+7", 7);
        counted("8192*8192*32", 1);
        counted("8192*8192*32-1", 999);
        counted("8192*8192*32-1+1", 1);
        counted("(8192*8192*32<0)+4", 5);
        counted("(8192*8192*32-1>0)+4", 5);
        counted("9999*9999*9999*9999+9999", Math.max(1, Math.min(999, 9999 * 9999 * 9999 * 9999 + 9999)));
        counted("(0-8192*8192*32=8192*8192*32)+4", 5);
    }

    private static void divisions() {
        counted("7/2", 3);
        counted("(0-7)/2+10", 7);
        counted("7/(0-2)+10", 7);
        counted("(0-7)/(0-2)+10", 13);
        counted("5/0+4", 4);
        counted("0/0+4", 4);
        counted("(0-5)/0+4", 4);
        counted("9999/(going-1)+4", 4);
        counted("9999/last+4", 4);
        counted("(8192*8192*32/(0-1)<0)*5+1", 6);
        counted("7/2*2", 6);
        counted("2*7/2", 7);
        counted("24/4/2", 3);
    }

    private static void truths() {
        counted("(1<2)*7+2", 9);
        counted("(2<2)*7+2", 2);
        counted("(3<2)*7+2", 2);
        counted("(1>2)*7+2", 2);
        counted("(2>2)*7+2", 2);
        counted("(3>2)*7+2", 9);
        counted("(1=2)*7+2", 2);
        counted("(2=2)*7+2", 9);
        counted("(0-1<0)*7+2", 9);
        counted("(5 and 6)*7+2", 9);
        counted("(5 and 0)*7+2", 2);
        counted("(0 and 5)*7+2", 2);
        counted("(0-5 and 0-6)*7+2", 9);
        counted("(5 or 6)*7+2", 9);
        counted("(0 or 6)*7+2", 9);
        counted("(6 or 0)*7+2", 9);
        counted("(0 or 0)*7+2", 2);
        counted("(0 or 0-6)*7+2", 9);
        counted("(not 0)*7+2", 9);
        counted("(not 1)*7+2", 2);
        counted("(not 5)*7+2", 2);
        counted("(not (0-5))*7+2", 2);
        counted("(not not 5)*7+2", 9);
        counted("(not 1=2)*7+2", 9);
        counted("(not 0+5)*7+2", 2);
        counted("(not 0 and 0)*7+2", 2);
        counted("(not 1 or 1)*7+2", 9);
        counted("(1 or 1 and 0)*7+2", 9);
        counted("((1 or 1) and 0)*7+2", 2);
        counted("(1+1<1+2)*7+2", 9);
        counted("(2*3=12/2)*7+2", 9);
        counted("2<3", 1);
    }

    private static void madeInBounds() {
        counted("0", 1);
        counted("0-1", 1);
        counted("1", 1);
        counted("2", 2);
        counted("998", 998);
        counted("999", 999);
        counted("1000", 999);
        counted("1001", 999);
        counted("9999*9999", 999);
        counted("0-9999*9999", 1);
    }

    private static void whatIsNamed() {
        counted("going", 1);
        counted("here-1", 59);
        counted("last+7", 7);
        Model model = new Model();
        model.posts = 60;
        model.count = (m, s) -> s.goings * 3;
        follow(model, "going*3", 59);
        model.count = (m, s) -> s.here() * 7;
        follow(model, "here*7", 59);
        // What was counted is what was made 1 .. 999: of 0 it was 1, of 5000 it was 999.
        model.count = (m, s) -> s.goings % 2 == 1 ? 0 : s.last + 5;
        follow(model, "(going/2*2=going)*(last+5)", 59);
        model.count = (m, s) -> s.goings % 2 == 1 ? 5000 : s.last - 5;
        follow(model, "(going/2*2<going)*5000+(going/2*2=going)*(last-5)", 59);
        // The going ahead is the other boy's, if there are two.
        model.boy = 30;
        model.count = (m, s) -> s.last + s.goings;
        follow(model, "last+going", 59);
    }

    private static PostRing tell(Model model, String count) {
        StringBuilder text = new StringBuilder("stand " + model.posts + ";begin " + model.begin + ";left " + model.left
            + ";again " + model.again + ";count " + count + ";");
        text.append(model.turn > 0 ? "turn " + model.turn + ";" : "").append(model.boy >= 0 ? "boy " + model.boy + ";" : "");
        for (int post = 0; post < 8; post++) {
            text.append(model.guarded[post] ? "guard " + post + " to " + post + ";" : "");
        }
        return Check.ringOf(text.toString());
    }

    private static void follow(Model model, String count, int goings) {
        PostRing ring = tell(model, count);
        Model.State state = model.start();
        for (int i = 0; i < goings; i++) {
            check.due("go(1) by " + count, ring.go(1), model.go(state, 1, model.left));
            check.due("first boy by " + count, ring.about(10), state.boyAt[0]);
            check.due("second boy by " + count, ring.about(11), state.boyAt[1]);
            check.due("turned by " + count, ring.about(12), state.turned ? 1 : 0);
        }
        check.due("stand by " + count, ring.about(1), state.here());
    }

    private static int wentBehind(String text, int goings, int i) {
        PostRing ring = Check.ringOf(text);
        check.due("go of " + text, ring.go(goings), goings);
        return ring.went(i);
    }

    private static void roundAndRound() {
        check.due("the first post looked at is begin", wentBehind("stand 60;begin 59;count 1;", 1, 0), 59);
        check.due("from the last to 0", wentBehind("stand 60;begin 59;count 2;", 1, 0), 0);
        check.due("from 0 to the last", wentBehind("stand 60;begin 30;boy 0;count 2;", 2, 1), 59);
        check.due("the second looks at his post first", wentBehind("stand 60;begin 30;boy 0;count 1;", 2, 1), 0);
        check.due("once round", wentBehind("stand 7;count 7;", 1, 0), 6);
        check.due("once round and one", wentBehind("stand 7;count 8;", 1, 0), 0);
        check.due("999 of 7", wentBehind("stand 7;count 999;", 1, 0), 998 % 7);
        check.due("999 of 2", wentBehind("stand 2;count 999;", 1, 0), 0);
        check.due("998 of 2", wentBehind("stand 2;count 998;", 1, 0), 1);
        check.due("down, once round", wentBehind("stand 7;begin 3;boy 5;count 6;", 2, 1), 6);
        check.due("down, once round and one", wentBehind("stand 7;begin 3;boy 5;count 6+(going=2);", 2, 1), 5);
        check.due("an empty begin can't be counted", wentBehind("stand 3;begin 1;boy 1;count 1;", 2, 1), 0);
        check.due("empty ones are passed by", wentBehind("stand 5;count 1+(going=2);", 2, 1), 2);
    }

    private static void whereEachGoesOn() {
        // Who is hit and stays is not counted again at once.
        PostRing stays = Check.ringOf("stand 3;count 1;again 1;");
        stays.go(1);
        check.due("hit, not gone", stays.post(0, 0) * 10 + stays.post(0, 1), 11);
        stays.go(1);
        check.due("goes on behind that post", stays.about(10), 1);
        PostRing down = Check.ringOf("stand 4;count 1;again 1;boy 0;begin 2;");
        down.go(2);
        check.due("second at 0", down.about(11), 0);
        down.go(2);
        check.due("second goes on from 0 to the last", down.about(11), 3);
        check.due("first goes on from 2", down.about(10), 3);
        PostRing first = Check.ringOf("stand 9;count 2;boy 8;");
        first.go(1);
        check.due("odd: the first", first.about(10) * 10 - first.about(11), 11);
        first.go(1);
        check.due("even: the second", first.about(11), 7);
        check.due("the first stays", first.about(10), 1);
    }

    private static void otherWayAbout() {
        Model model = new Model();
        model.posts = 9;
        for (int turn = 1; turn <= 4; turn++) {
            for (int boy = -1; boy < 9; boy += 5) {
                model.turn = turn;
                model.boy = boy;
                model.again = 1;
                model.count = (m, s) -> 4;
                follow(model, "4", 12);
            }
        }
        PostRing ring = Check.ringOf("stand 5;count 1;again 3;turn 2;begin 4;");
        ring.go(2);
        check.due("4, then 0", ring.about(10), 0);
        check.due("behind two goings", ring.about(12), 1);
        ring.go(1);
        check.due("back from 0 to 4", ring.about(10), 4);
        PostRing never = Check.ringOf("stand 5;count 1;again 9;");
        never.go(40);
        check.due("turn is not told", never.about(12), 0);
        PostRing late = Check.ringOf("stand 9;count 2;turn 1;boy 4;");
        late.go(2);
        check.due("turned ahead of his first going he looks at his post and goes to higher ones", late.about(11), 5);
    }

    private static void hitsTillOneGoes() {
        for (int again = 0; again <= 9; again += 3) {
            PostRing ring = Check.ringOf("stand 2;again " + again + ";guard 1 to 1;count 1+(going>1);");
            // 0 is hit, then by 2 of 2 always the same one.
            ring.go(again);
            check.due("as often as again: stands", ring.post(0, 0), 1);
            ring.go(1);
            check.due("and once more: goes", ring.post(0, 0), 0);
            PostRing guarded = Check.ringOf("stand 2;again " + again + ";guard 0 to 0;count 1+(going>1);");
            guarded.go(again + 1);
            check.due("guarded, once more: stands", guarded.post(0, 0), 1);
            guarded.go(1);
            check.due("guarded, twice more: goes", guarded.post(0, 0), 0);
        }
    }

    private static void whereItEnds() {
        check.due("one post", Check.ringOf("stand 1;").go(1000), 0);
        check.due("left as many as stand", Check.ringOf("stand 5;left 5;").go(1000), 0);
        check.due("left more than stand", Check.ringOf("stand 5;left 59;").go(1000), 0);
        check.due("left one less", Check.ringOf("stand 5;left 4;").go(1000), 1);
        check.due("left 1", Check.ringOf("stand 5;left 1;").go(1000), 4);
        check.due("hits count, too", Check.ringOf("stand 2;again 1;count 1;").go(1000), 3);
        PostRing ring = Check.ringOf("stand 5;left 4;");
        ring.go(1);
        check.due("no going is then", ring.go(1000), 0);
        check.due("goings", ring.about(2), 1);
    }

    private static void promise6() {
        PostRing ring = Check.ringOf("stand 60;again 9;guard 0 to 59;count 1;");
        for (int wrong : new int[] {-1, 1001, LEAST, GREATEST}) {
            check.due("another number", ring.go(wrong), -1);
        }
        check.due("doing nothing", ring.about(2), 0);
        check.due("0", ring.go(0), 0);
        check.due("still none", ring.about(2), 0);
        check.due("1", ring.go(1), 1);
        // Ten whole rounds, then one goes each time.
        check.due("599 more", ring.go(599), 599);
        check.due("all stand", ring.about(1), 60);
        check.due("58 more", ring.go(58), 58);
        check.due("two stand", ring.about(1), 2);
        check.due("till it ends", ring.go(1000), 1);
        check.due("it has ended", ring.go(1000), 0);
        check.due("goings", ring.about(2), 659);
        check.due("1000 at once", Check.ringOf("stand 60;again 9;guard 0 to 59;count 1;").go(1000), 659);
    }

    private static void promise7() {
        PostRing ring = Check.ringOf("stand 60;again 1;left 59;count 1+(going>1)*59;begin 59;");
        for (int post : new int[] {-1, 60, 61, 64, LEAST, GREATEST}) {
            for (int what = 0; what < 3; what++) {
                check.due("no such post " + post, ring.post(post, what), -1);
            }
        }
        for (int what : new int[] {-1, 3, LEAST, GREATEST}) {
            check.due("another what " + what, ring.post(59, what), -1);
        }
        check.due("stands", ring.post(59, 0), 1);
        check.due("never hit", ring.post(59, 1), 0);
        check.due("has not gone", ring.post(59, 2), -1);
        ring.go(1);
        check.due("stands", ring.post(59, 0), 1);
        check.due("hit once", ring.post(59, 1), 1);
        check.due("has not gone", ring.post(59, 2), -1);
        ring.go(1);
        check.due("gone", ring.post(59, 0), 0);
        check.due("gone ones' hits too", ring.post(59, 1), 2);
        check.due("went in", ring.post(59, 2), 2);
        check.due("post 0", ring.post(0, 0) * 100 + ring.post(0, 1) * 10 + ring.post(0, 2), 99);
        PostRing small = Check.ringOf("stand 3;");
        check.due("the last post", small.post(2, 0), 1);
        check.due("beyond the last post", small.post(3, 0), -1);
        check.due("beyond the last post", small.post(3, 1), -1);
    }

    private static void promise8() {
        PostRing ring = Check.ringOf("stand 60;count 1;begin 1;");
        check.due("none went yet", ring.went(0), -1);
        ring.go(1000);
        check.due("the first", ring.went(0), 1);
        check.due("the 59th", ring.went(58), 59);
        check.due("no 60th", ring.went(59), -1);
        for (int i : new int[] {-1, 60, LEAST, GREATEST}) {
            check.due("none such " + i, ring.went(i), -1);
        }
        Check.put(ring, "stand 60;count 1;");
        ring.ring();
        check.due("none went in a new ring", ring.went(0), -1);
        ring.go(1);
        check.due("one went", ring.went(0), 0);
        check.due("of the ring ahead nothing is told", ring.went(1), -1);
    }

    private static void promise9() {
        long all = (1L << 60) - 1;
        check.due("one post", new PostRing().left(), 1);
        check.due("the highest bit", Check.ringOf("stand 60;count 1;").left(), 1L << 59);
        check.due("59 of 60", Check.ringOf("stand 60;count 1;left 59;").left(), all - 1);
        check.due("all of 59", Check.ringOf("stand 59;left 59;").left(), all >> 1);
        check.due("more than stand", Check.ringOf("stand 3;left 9;").left(), 7);
        PostRing ring = Check.ringOf("stand 5;");
        for (int i = 0; i < 6; i++) {
            check.due("the same behind each going", ring.left(), 8);
            ring.go(1);
        }
    }

    private static void promise10() {
        PostRing ring = Check.ringOf("stand 5;");
        for (int post : new int[] {-1, 5, 59, 60, 64, LEAST, GREATEST}) {
            check.due("none such " + post, ring.when(post), -2);
        }
        check.due("the first going", ring.when(2), 1);
        check.due("the last going", ring.when(1), 4);
        check.due("left in the end", ring.when(3), -1);
        ring.go(1);
        check.due("empty", ring.when(2), -1);
        check.due("its number counts from the first", ring.when(0), 2);
        ring.go(1000);
        check.due("ended: left", ring.when(3), -1);
        check.due("ended: empty", ring.when(1), -1);
        check.due("post 59", Check.ringOf("stand 60;begin 59;count 1;").when(59), 1);
        check.due("post 60", Check.ringOf("stand 60;begin 59;count 1;").when(60), -2);
        check.due("one post", new PostRing().when(0), -1);
        check.due("all are left", Check.ringOf("stand 3;left 3;").when(0), -1);
        check.due("going 659", Check.ringOf("stand 60;again 9;guard 0 to 59;count 1;").when(58), 659);
    }

    private static void promise11() {
        PostRing ring = Check.ringOf("stand 5;");
        for (int n : new int[] {-1, 301, LEAST, GREATEST}) {
            check.due("n can't be: " + n, ring.late(n), -1);
        }
        check.due("none is empty", ring.late(0), 0);
        // Ended: 3 stands alone, the boy was at 1; who comes to 2 is counted 2, 3, 2.
        check.due("300", ring.late(300), Check.bits(0, 1, 4));
        check.due("behind the end as at the end", ring.late(4), Check.bits(0, 1, 4));
        ring.go(4);
        check.due("from now", ring.late(0), Check.bits(0, 1, 4));
        check.due("one post is never empty", new PostRing().late(0), 0);
        check.due("none goes", Check.ringOf("stand 3;left 3;").late(300), 0);
        // Never HIT: 0 went by two hits, 1 has none; then 1, 0, 1 are hit, and 1 goes.
        PostRing hits = Check.ringOf("stand 2;again 1;count 1+(going=2);");
        hits.go(2);
        check.due("0 went by two hits", hits.went(0), 0);
        check.due("one who comes to 0 has no hits", hits.late(0), Check.bits(0));
        check.due("at a guarded post", Check.ringOf("stand 2;guard 0 to 0;count 1+(going=2);").late(2), Check.bits(0));
        boolean differ = false;
        for (int seed = 0; seed < 12; seed++) {
            Model model = new Model();
            model.posts = 60;
            model.again = 5 + seed % 3;
            model.begin = seed;
            int factor = seed + 2;
            model.count = (m, s) -> s.goings * factor;
            PostRing far = tell(model, "going*" + factor);
            Model.State state = model.start();
            long behind300 = model.late(state, 300);
            check.due("300 goings are not the end", model.toEnd(state).goings > 301, true);
            check.due("behind 300", far.late(300), behind300);
            check.due("behind 299", far.late(299), model.late(state, 299));
            far.go(1);
            model.go(state, 1, 1);
            check.due("behind 300 from now", far.late(300), model.late(state, 300));
            differ |= behind300 != model.late(state, 300);
        }
        check.due("one going more tells", differ, true);
    }

    private static void promise12() {
        PostRing ring = Check.ringOf("stand 5;");
        for (int post : new int[] {-1, 5, 60, LEAST, GREATEST}) {
            check.due("none such " + post, ring.bribe(post), -2);
        }
        check.due("the first going", ring.bribe(4), 1);
        check.due("the last going", ring.bribe(1), 4);
        check.due("none is enough", ring.bribe(0), -1);
        check.due("left without", ring.bribe(3), -1);
        ring.go(1);
        check.due("empty", ring.bribe(2), -1);
        check.due("a going that was can't be bribed", ring.bribe(4), firstBribe(1, 4));
        ring.go(2);
        check.due("the last going still comes", ring.bribe(1), 4);
        ring.go(1);
        check.due("ended", ring.bribe(1), -1);
        check.due("ended: left", ring.bribe(3), -1);
        check.due("one post", new PostRing().bribe(0), -1);
        // 999 is counted, 1000 then: of two the other one.
        PostRing most = Check.ringOf("stand 2;count 9999;");
        check.due("999 hits 0", most.when(0), 1);
        check.due("1000 hits 1", most.bribe(0), 1);
        check.due("left without", most.bribe(1), -1);
        PostRing least = Check.ringOf("stand 2;count 1;");
        check.due("1 hits 0, 2 hits 1", least.bribe(0), 1);
        // In it alone: in each later going the count is as it was.
        PostRing alone = Check.ringOf("stand 3;count 1;");
        check.due("1, then 2 goes", alone.bribe(0), 1);
        check.due("0, then 2 goes", alone.bribe(1), 2);
    }

    private static int firstBribe(int goings, int post) {
        Model model = new Model();
        model.posts = 5;
        Model.State state = model.start();
        model.go(state, goings, 1);
        return model.bribe(state, post);
    }

    private static void promise13() {
        PostRing ring = Check.ringOf("stand 5;left 3;");
        for (int m : new int[] {0, -1, 60, 61, LEAST, GREATEST}) {
            check.due("m can't be: " + m, ring.stay(m), -1);
        }
        check.due("less than left", ring.stay(1), Check.bits(3));
        check.due("as left", ring.stay(3), Check.bits(1, 3, 4));
        check.due("more than left", ring.stay(4), Check.bits(0, 1, 3, 4));
        check.due("all who stand", ring.stay(5), 31);
        check.due("all who stand, if they are no more", ring.stay(6), 31);
        check.due("59", ring.stay(59), 31);
        ring.go(1000);
        check.due("ended: less than left", ring.stay(1), Check.bits(3));
        check.due("ended: two", ring.stay(2), Check.bits(1, 3));
        check.due("ended: all who stand", ring.stay(4), Check.bits(1, 3, 4));
        check.due("59 of 60", Check.ringOf("stand 60;count 1;").stay(59), (1L << 60) - 2);
        check.due("one post", new PostRing().stay(1), 1);
        check.due("left put aside", Check.ringOf("stand 60;left 59;count 1;").stay(1), 1L << 59);
        // 659 goings to the last one.
        check.due("the longest", Check.ringOf("stand 60;again 9;guard 0 to 59;count 1;left 59;").stay(1), 1L << 59);
    }

    private static void promise14() {
        check.due("one boy", Check.ringOf("stand 9;").meet(), -1);
        check.due("no goings", Check.ringOf("boy 0;").meet(), -1);
        check.due("one going alone: the second was nowhere", Check.ringOf("stand 3;left 2;count 1;boy 0;").meet(), -1);
        check.due("at one post", Check.ringOf("stand 9;again 1;count 1;begin 4;boy 4;").meet(), 2);
        check.due("next, above", Check.ringOf("stand 9;count 1;begin 4;boy 5;").meet(), 2);
        check.due("next, below", Check.ringOf("stand 9;count 1;begin 4;boy 3;").meet(), 2);
        check.due("two apart", Check.ringOf("stand 9;count 1;begin 4;boy 6;left 7;").meet(), -1);
        check.due("two apart, then next", Check.ringOf("stand 9;count 1;begin 4;boy 6;left 6;").meet(), 3);
        check.due("0 and the last one", Check.ringOf("stand 9;count 1;begin 0;boy 8;").meet(), 2);
        check.due("the last one and 0", Check.ringOf("stand 9;count 1;begin 8;boy 0;").meet(), 2);
        check.due("1 and the last one", Check.ringOf("stand 9;count 1;begin 1;boy 8;left 7;").meet(), -1);
        check.due("of 60", Check.ringOf("stand 60;count 1;begin 59;boy 0;").meet(), 2);
        check.due("of 60, not so", Check.ringOf("stand 60;count 1;begin 58;boy 0;left 58;").meet(), -1);
        check.due("two posts", Check.ringOf("stand 2;count 1;again 1;boy 1;").meet(), 2);
        check.due("three posts are all next to one another", Check.ringOf("stand 3;count 1;again 1;begin 0;boy 2;").meet(), 2);
        PostRing ended = Check.ringOf("stand 9;count 1;begin 4;boy 5;left 7;");
        check.due("in the last going", ended.meet(), 2);
        ended.go(1);
        check.due("still to come", ended.meet(), 2);
        ended.go(1);
        check.due("never from now on till the end", ended.meet(), -1);
    }

    private static void promise15() {
        PostRing ring = Check.ringOf("stand 5;begin 3;");
        for (int post : new int[] {-1, 5, 60, LEAST, GREATEST}) {
            check.due("no such post " + post, ring.begins(post), -2);
        }
        for (int post = 0; post < 5; post++) {
            check.due("in place of that told", ring.begins(post), 1L << (post + 2) % 5);
        }
        ring.go(1000);
        check.due("from where it stood at first", ring.begins(4), Check.bits(1));
        check.due("all begins", Check.ringOf("stand 60;left 59;count 1;").begins(0), (1L << 60) - 2);
        check.due("the highest begin", Check.ringOf("stand 60;left 59;count 1;").begins(59), (1L << 59) - 1);
        check.due("one post", new PostRing().begins(0), 1);
        check.due("none goes", Check.ringOf("stand 3;left 3;").begins(2), 7);
        check.due("none such of one post", new PostRing().begins(1), -2);
        // By no begin: 0 is hit by the second boy alone, whatever the first does.
        PostRing none = Check.ringOf("stand 3;count 1;boy 0;");
        Model model = new Model();
        model.posts = 3;
        model.boy = 0;
        model.count = (m, s) -> 1;
        for (int post = 0; post < 3; post++) {
            check.due("with a second boy", none.begins(post), model.begins(post));
        }
    }

    private static void promise16() {
        PostRing ring = Check.ringOf("stand 5;count 999;");
        for (long set : new long[] {0, 32, 33, 1L << 59, 1L << 60, 1L << 63, -1, Long.MIN_VALUE, Long.MAX_VALUE}) {
            check.due("it can't be: " + set, ring.chooses(set), -1);
        }
        check.due("in place of e", ring.chooses(16), 1);
        check.due("by 3", ring.chooses(8), 3);
        check.due("more than are left", ring.chooses(24), -1);
        ring.go(3);
        check.due("from where it stood at first", ring.chooses(16), 1);
        check.due("one post", new PostRing().chooses(1), 1);
        check.due("beyond one post", new PostRing().chooses(2), -1);
        check.due("all of a ring where one goes", Check.ringOf("stand 60;left 59;").chooses((1L << 60) - 1), -1);
        check.due("all of a ring where none goes", Check.ringOf("stand 59;left 59;").chooses((1L << 59) - 1), 1);
        check.due("some of a ring where none goes", Check.ringOf("stand 5;left 9;").chooses(5), 1);
        check.due("post 59", Check.ringOf("stand 60;count 7;").chooses(1L << 59), 1);
        // By each of these numbers alone, up to it, just these 55 are left.
        for (int k = 998; k <= 1001; k++) {
            long set = (1L << 60) - 1;
            List<Integer> order = Model.plain(60, k);
            for (int post : order.subList(0, 5)) {
                set &= ~(1L << post);
            }
            check.due("the 55 of " + k, Check.ringOf("stand 60;left 55;").chooses(set), k <= 999 ? k : -1);
        }
        // Of two posts one is left by odd numbers, the other by even ones; of both none.
        check.due("0 is left by 2", Check.ringOf("stand 2;").chooses(1), 2);
        check.due("1 is left by 1", Check.ringOf("stand 2;").chooses(2), 1);
        check.due("both", Check.ringOf("stand 2;").chooses(3), -1);
    }

    private static void promise17() {
        PostRing ring = new PostRing();
        for (int post : new int[] {-1, 60, 61, LEAST, GREATEST}) {
            check.due("not 0 .. 59: " + post, ring.order(post), -1);
        }
        check.due("doing nothing", ring.about(8), 0);
        check.due("59, beyond the posts of this ring", ring.order(59), 1);
        check.due("0", ring.order(0), 2);
        check.due("0 again", ring.order(0), 3);
        for (int i = 4; i <= 60; i++) {
            check.due("how many there are", ring.order(i - 1), i);
        }
        check.due("there are 60", ring.order(0), -1);
        check.due("doing nothing", ring.about(8), 60);
        check.due("keep(59)", ring.keep(59), 59);
        check.due("room for one", ring.order(5), 60);
        check.due("there are 60", ring.order(5), -1);
    }

    private static void promise18() {
        PostRing ring = Check.ringOf("stand 5;");
        check.due("0 of none", ring.keep(0), 0);
        check.due("it has not so many", ring.keep(1), -1);
        check.due("below 0", ring.keep(-1), -1);
        ring.order(2);
        ring.order(0);
        ring.order(3);
        check.due("wrong", ring.judge(), 2);
        for (int n : new int[] {-1, 4, 60, LEAST, GREATEST}) {
            check.due("refused " + n, ring.keep(n), -1);
        }
        check.due("doing nothing", ring.about(8) * 10 + ring.judge(), 32);
        check.due("all of it", ring.keep(3), 3);
        check.due("its first 2", ring.keep(2), 2);
        check.due("these stay", ring.judge(), -1);
        check.due("what was cut is gone", ring.keep(3), -1);
        check.due("goes on from there", ring.order(4) * 10 + ring.judge(), 29);
        check.due("none", ring.keep(0), 0);
        check.due("about(8)", ring.about(8), 0);
    }

    private static void promise19() {
        PostRing ring = Check.ringOf("stand 5;");
        check.due("nothing told", ring.judge(), -1);
        ring.order(59);
        check.due("the first is wrong", ring.judge(), 0);
        ring.keep(0);
        for (int post : new int[] {2, 0, 4, 1}) {
            ring.order(post);
        }
        check.due("all who go", ring.judge(), -1);
        ring.go(2);
        check.due("from where it stood at first", ring.judge(), -1);
        ring.order(3);
        check.due("only four go in the end", ring.judge(), 4);
        ring.keep(3);
        ring.order(3);
        check.due("the last is wrong", ring.judge(), 3);
        PostRing one = new PostRing();
        one.order(0);
        check.due("none goes of one post", one.judge(), 0);
        PostRing all = Check.ringOf("stand 60;count 1;");
        for (int post = 0; post < 59; post++) {
            all.order(post);
        }
        check.due("59 of 60", all.judge(), -1);
        all.order(59);
        check.due("the 60th does not go", all.judge(), 59);
        PostRing left = Check.ringOf("stand 5;left 4;");
        left.order(2);
        check.due("one goes", left.judge(), -1);
        left.order(0);
        check.due("no second one", left.judge(), 1);
    }

    private static void promise38() {
        PostRing ring = Check.ringOf("stand 9;again 1;boy 4;turn 3;count last+2;");
        for (int box : new int[] {-1, 3, 4, LEAST, GREATEST}) {
            check.due("none such " + box, ring.image(box), -1);
        }
        check.due("no goings yet", ring.image(0), 0);
        ring.go(4);
        check.due("the last box", ring.image(2), 4);
        ring.go(1);
        check.due("kept anew", ring.image(2), 5);
        ring.go(1000);
        check.due("that of 5", ring.back(2), 5);
        check.due("the other one stays", ring.back(0), 0);
        check.due("the one between is empty", ring.back(1), -1);
    }

    private static void promise39() {
        PostRing ring = Check.ringOf("stand 9;again 1;boy 4;turn 3;guard 3 to 5;count last+2;");
        for (int box : new int[] {-1, 0, 1, 2, 3, LEAST, GREATEST}) {
            check.due("nothing was kept in " + box, ring.back(box), -1);
        }
        ring.go(2);
        check.due("nothing was kept: doing nothing", ring.back(0), -1);
        check.due("goings", ring.about(2), 2);
        PostRing twin = Check.ringOf("stand 9;again 1;boy 4;turn 3;guard 3 to 5;count last+2;");
        twin.go(7);
        String kept = Observed.course(twin);
        ring.go(5);
        check.due("image", ring.image(1), 7);
        check.due("it goes on", ring.go(1000) > 0, true);
        check.due("how many goings", ring.back(1), 7);
        check.same("all is as it was kept", Observed.course(ring), kept);
        check.due("it goes on from there", ring.go(1000), twin.go(1000));
        check.same("to the same end", Observed.course(ring), Observed.course(twin));
        check.due("back again", ring.back(1), 7);
        check.same("the image is not used up", Observed.course(ring), kept);
        check.due("back from an earlier state", ring.image(0) * 10 + ring.back(1), 77);
        Check.put(ring, "stand 9;");
        ring.ring();
        check.due("boxes are empty behind ring()", ring.back(0) + ring.back(1) + ring.back(2), -3);
    }

    private static void promise40() {
        PostRing ring = new PostRing();
        for (int what : new int[] {-1, 13, 14, LEAST, GREATEST}) {
            check.due("another what " + what, ring.about(what), -1);
        }
        PostRing full = Check.ringOf("stand 60;boy 20;turn 1;left 2;begin 9;count 1+2*here;person a worth 1;person b worth 1;"
            + "drawn 1 weight 1;drawn 2 weight 1;drawn 3 weight 1;");
        check.due("nowhere yet", full.about(10) + full.about(11), -2);
        full.go(1);
        check.due("the first alone", full.about(11), -1);
        full.go(2);
        full.order(1);
        full.sight(1, 1, 0);
        full.sight(2, 1, 0);
        full.untell(1);
        full.later(17);
        full.feed(0, 0, 0, 0, 0);
        full.end(19);
        Model model = new Model();
        model.posts = 60;
        model.boy = 20;
        model.turn = 1;
        model.begin = 9;
        model.count = (m, s) -> 1 + 2 * s.here();
        Model.State state = model.start();
        model.go(state, 3, 2);
        int[] want = {60, 57, 3, 2, 3, 2, 17, 19, 1, 3, state.boyAt[0], state.boyAt[1], 1};
        for (int what = 0; what < want.length; what++) {
            check.due("about " + what, full.about(what), want[what]);
        }
        full.go(1000);
        check.due("two stand", full.about(1), 2);
        check.due("58 goings", full.about(2), 58);
        check.due("they go as at first", full.about(12), 0);
    }
}

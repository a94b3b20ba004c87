/** Promises 1, 6 to 19 and 38 to 40 on rings that can be followed by hand. */
public final class GoingTest {
    private static final Check check = new Check("GoingTest");

    public static void main(String[] args) {
        newObject();
        going();
        counts();
        twoBoys();
        turns();
        againAndGuards();
        ahead();
        lateAndBribe();
        bribeByOneMore();
        stayAndMeet();
        beginsAndChooses();
        orders();
        boxes();
        about();
        check.close();
    }

    private static void newObject() {
        PostRing ring = new PostRing();
        int[] want = {1, 1, 0, 0, 0, 0, 0, 0, 0, 0, -1, -1, 0};
        for (int what = 0; what < want.length; what++) {
            check.due("about " + what, ring.about(what), want[what]);
        }
        check.due("fault(0)", ring.fault(0), 0);
        check.due("fault(1)", ring.fault(1), -1);
        check.due("post(0, 0)", ring.post(0, 0), 1);
        check.due("post(0, 1)", ring.post(0, 1), 0);
        check.due("post(0, 2)", ring.post(0, 2), -1);
        check.due("post(1, 0)", ring.post(1, 0), -1);
        check.due("went(0)", ring.went(0), -1);
        check.due("left()", ring.left(), 1);
        check.due("go(1000)", ring.go(1000), 0);
        check.due("late(0)", ring.late(0), 0);
        check.due("late(300)", ring.late(300), 0);
        check.due("stay(59)", ring.stay(59), 1);
        check.due("begins(0)", ring.begins(0), 1);
        check.due("chooses(1)", ring.chooses(1), 1);
        check.due("chooses(2)", ring.chooses(2), -1);
        check.due("bribe(0)", ring.bribe(0), -1);
        check.due("bribe(1)", ring.bribe(1), -2);
        check.due("when(0)", ring.when(0), -1);
        check.due("when(1)", ring.when(1), -2);
    }

    private static void going() {
        PostRing ring = Check.ringOf("stand 7;count 3;begin 1;left 2;");
        check.due("go(-1)", ring.go(-1), -1);
        check.due("go(1001)", ring.go(1001), -1);
        check.due("go(0)", ring.go(0), 0);
        check.due("nothing done", ring.about(2), 0);
        check.due("go(1)", ring.go(1), 1);
        check.due("1, 2, 3", ring.went(0), 3);
        check.due("go(2)", ring.go(2), 2);
        check.due("4, 5, 6", ring.went(1), 6);
        check.due("0, 1, 2", ring.went(2), 2);
        check.due("went(3)", ring.went(3), -1);
        check.due("went(-1)", ring.went(-1), -1);
        check.due("went(greatest)", ring.went(Integer.MAX_VALUE), -1);
        check.due("go(1000)", ring.go(1000), 2);
        check.due("4, 5, 0", ring.went(3), 0);
        check.due("1, 4, 5", ring.went(4), 5);
        check.due("till two are left", ring.about(1), 2);
        check.due("it has ended", ring.go(5), 0);
        check.due("goings", ring.about(2), 5);
        check.due("gone in", ring.post(5, 2), 5);
        check.due("hit", ring.post(5, 1), 1);
        check.due("gone", ring.post(5, 0), 0);
        check.due("stands", ring.post(4, 0), 1);
        check.due("never hit", ring.post(4, 1), 0);
        check.due("never gone", ring.post(4, 2), -1);
        check.due("post(7, 0)", ring.post(7, 0), -1);
        check.due("post(-1, 0)", ring.post(-1, 0), -1);
        check.due("post(0, 3)", ring.post(0, 3), -1);
        check.due("post(0, -1)", ring.post(0, -1), -1);
        check.due("more left than stand", Check.ringOf("stand 5;left 9;").go(10), 0);
    }

    /** What a count is: who is hit first in a ring of 60 tells it, modulo 60. */
    private static void counts() {
        firstCount("0", 1);
        firstCount("1-9", 1);
        firstCount("999", 999);
        firstCount("1000", 999);
        firstCount("9999*9999*9999", 999999990);
        firstCount("7/2", 3);
        firstCount("(1-8)/2+10", 7);
        firstCount("5/0+2", 2);
        firstCount("5-(1-1)/(1-1)", 5);
        firstCount("10-2-3", 5);
        firstCount("24/4/2", 3);
        firstCount("2+3*4", 14);
        firstCount("(2+3)*4", 20);
        firstCount("(1<2)+(2>1)+(3=3)+(2<1)+(1>2)+(3=4)+(1<1)+(1>1)+10", 13);
        firstCount("(5 and 6)+10", 11);
        firstCount("(5 and 0)+10", 10);
        firstCount("(0 or 6)+10", 11);
        firstCount("(0 or 0)+10", 10);
        firstCount("(not 0)+(not 7)+10", 11);
        firstCount("(not 1<2)+10", 10);
        firstCount("(not 1 or 1)+10", 11);
        firstCount("(1 or 0 and 0)+10", 11);
        firstCount("here-20", 40);
        firstCount("going+4", 5);
        firstCount("last+4", 4);
        PostRing ring = Check.ringOf("stand 60;count going*7+here+last*(going<3);");
        ring.go(3);
        check.due("7 + 60 + 0", ring.went(0), 6);
        check.due("14 + 59 + 67", ring.went(1), nthFrom(7, 140, Check.bits(6)));
        check.due("21 + 58", ring.went(2), nthFrom(ring.went(1) + 1, 79, Check.bits(6, ring.went(1))));
    }

    private static void firstCount(String e, int counted) {
        PostRing ring = Check.ringOf("stand 60;count " + e + ";");
        ring.go(1);
        // What is counted is made 1 .. 999, with Java's wrapping ahead of that.
        int made = counted == 999999990 ? Math.max(1, Math.min(999, 9999 * 9999 * 9999)) : counted;
        check.due("count " + e, ring.went(0), (made - 1) % 60);
    }

    private static int nthFrom(int from, int count, long gone) {
        int place = (from + 59) % 60;
        for (int left = count; left > 0;) {
            place = (place + 1) % 60;
            left -= (gone >> place & 1) == 0 ? 1 : 0;
        }
        return place;
    }

    private static void twoBoys() {
        PostRing ring = Check.ringOf("stand 9;count 2;begin 3;boy 3;");
        ring.go(4);
        check.due("up: 3, 4", ring.went(0), 4);
        check.due("down: 3, 2", ring.went(1), 2);
        check.due("up: 5, 6", ring.went(2), 6);
        check.due("down: 1, 0", ring.went(3), 0);
        check.due("first", ring.about(10), 6);
        check.due("second", ring.about(11), 0);
        ring.go(1);
        check.due("up: 7, 8", ring.went(4), 8);
        ring.go(1);
        check.due("down: 7, 5", ring.went(5), 5);
        PostRing one = Check.ringOf("stand 9;count 2;");
        one.go(2);
        check.due("no second boy", one.about(11), -1);
        PostRing start = Check.ringOf("stand 9;count 2;boy 3;");
        start.go(1);
        check.due("the second has not gone yet", start.about(11), -1);
    }

    private static void turns() {
        PostRing ring = Check.ringOf("stand 9;count 2;turn 2;");
        check.due("not turned", ring.about(12), 0);
        ring.go(1);
        check.due("not turned", ring.about(12), 0);
        ring.go(1);
        check.due("turned", ring.about(12), 1);
        ring.go(2);
        check.due("turned back", ring.about(12), 0);
        check.due("up: 0, 1", ring.went(0), 1);
        check.due("up: 2, 3", ring.went(1), 3);
        check.due("down: 2, 0", ring.went(2), 0);
        check.due("down: 8, 7", ring.went(3), 7);
        ring.go(1);
        check.due("up: 8, 2", ring.went(4), 2);
        PostRing two = Check.ringOf("stand 9;count 3;turn 1;boy 5;");
        two.go(3);
        check.due("up: 0, 1, 2", two.went(0), 2);
        check.due("the second turned: 5, 6, 7", two.went(1), 7);
        check.due("the first again up: 3, 4, 5", two.went(2), 5);
    }

    private static void againAndGuards() {
        PostRing ring = Check.ringOf("stand 3;count 1;again 1;guard 1 to 1;guard 1 to 40;");
        check.due("3 goings, none goes", ring.go(3), 3);
        check.due("hit once each", ring.post(0, 1) + ring.post(1, 1) * 10 + ring.post(2, 1) * 100, 111);
        check.due("all stand", ring.about(1), 3);
        ring.go(1);
        check.due("a second hit sends home", ring.went(0), 0);
        ring.go(2);
        check.due("guarded ones are hit thrice: both stand", ring.about(1), 2);
        check.due("hits", ring.post(1, 1) * 10 + ring.post(2, 1), 22);
        ring.go(1000);
        check.due("the third hit", ring.went(1), 1);
        check.due("hits of one gone", ring.post(1, 1), 3);
        check.due("in going", ring.post(1, 2), 7);
        PostRing most = Check.ringOf("stand 60;again 9;guard 0 to 59;count going*last+here;turn 7;boy 30;");
        int goings = most.go(1000);
        check.due("it ends", most.about(1), 1);
        check.due("in no more than 11 times 60", goings <= 660, true);
    }

    private static void ahead() {
        PostRing ring = Check.ringOf("stand 5;");
        check.due("left()", ring.left(), Check.bits(3));
        check.due("it stays", ring.about(2), 0);
        ring.go(1);
        check.due("when gone", ring.when(2), -1);
        check.due("when", ring.when(1), 4);
        check.due("when left", ring.when(3), -1);
        check.due("when(-1)", ring.when(-1), -2);
        check.due("when(60)", ring.when(60), -2);
        check.due("it stays", ring.about(1), 4);
        check.due("left of one", Check.ringOf("stand 60;left 59;").left(), ((1L << 60) - 1) & ~(1L << 2));
    }

    private static void lateAndBribe() {
        PostRing ring = Check.ringOf("stand 5;count 3;");
        check.due("late(-1)", ring.late(-1), -1);
        check.due("late(301)", ring.late(301), -1);
        check.due("none is empty", ring.late(0), 0);
        // Behind 4 goings 3 stands alone, and the boy was at 1. With one at 0, 1 or 4 he counts 3,
        // that one, 3; with one at 2 it is 2, 3, 2.
        check.due("behind the end", ring.late(4), Check.bits(0, 1, 4));
        check.due("behind more than there are", ring.late(300), ring.late(4));
        check.due("it stays", ring.about(2), 0);
        ring.go(1000);
        check.due("now", ring.late(0), Check.bits(0, 1, 4));
        check.due("bribe when none comes", ring.bribe(1), -1);
        PostRing fresh = Check.ringOf("stand 5;count 3;");
        int[] bribes = {-1, 4, -1, -1, 1};
        for (int post = 0; post < 5; post++) {
            check.due("bribe for " + post, fresh.bribe(post), bribes[post]);
        }
        check.due("bribe(-1)", fresh.bribe(-1), -2);
        check.due("bribe(5)", fresh.bribe(5), -2);
    }

    /** One more than what would be counted, made 1 .. 999 ahead of that. */
    private static void bribeByOneMore() {
        PostRing two = Check.ringOf("stand 2;count 0;");
        check.due("1 is counted", two.when(0), 1);
        check.due("2 instead", two.bribe(0), 1);
        PostRing most = Check.ringOf("stand 2;count 9999;");
        check.due("999 is counted", most.when(0), 1);
        check.due("1000 instead", most.bribe(0), 1);
        // Behind the bribe last is one more, too: 1 by 1, without; 2, then 3 by last + 1.
        PostRing last = Check.ringOf("stand 3;count last*last+1;");
        check.due("0, then of 1, 2 the second", last.left(), Check.bits(1));
        check.due("1 goes first by the bribe; 2, 0, 2, 0, 2", last.bribe(0), 1);
    }

    private static void stayAndMeet() {
        PostRing ring = Check.ringOf("stand 5;left 3;");
        check.due("stay(0)", ring.stay(0), -1);
        check.due("stay(60)", ring.stay(60), -1);
        check.due("stay(1)", ring.stay(1), Check.bits(3));
        check.due("stay(2)", ring.stay(2), Check.bits(1, 3));
        check.due("stay(4)", ring.stay(4), Check.bits(0, 1, 3, 4));
        check.due("stay(59)", ring.stay(59), Check.bits(0, 1, 2, 3, 4));
        ring.go(1000);
        check.due("left put aside", ring.stay(1), Check.bits(3));
        check.due("no more stand", ring.stay(3), Check.bits(1, 3, 4));
        check.due("no second boy", ring.meet(), -1);
        PostRing boys = Check.ringOf("stand 9;count 1;boy 8;begin 0;again 9;");
        check.due("0 and the last one", boys.meet(), 2);
        boys.go(2);
        // 0 and 8 were; then 1, 7, 2, 6, 3, 5, which are two apart, and 4 next to 5.
        check.due("from what there is", boys.meet(), 9);
        PostRing ended = Check.ringOf("stand 9;count 1;boy 5;left 5;");
        check.due("never till the end", ended.meet(), -1);
        PostRing same = Check.ringOf("stand 9;count 1;again 3;boy 0;");
        check.due("at one post", same.meet(), 2);
        PostRing alone = Check.ringOf("stand 3;count 1;boy 1;left 2;");
        check.due("the second was at no post", alone.meet(), -1);
    }

    private static void beginsAndChooses() {
        PostRing ring = Check.ringOf("stand 5;begin 2;");
        ring.go(2);
        check.due("from where it stood at first", ring.begins(3), Check.bits(0));
        check.due("begins(0)", ring.begins(0), Check.bits(2));
        check.due("begins(5)", ring.begins(5), -2);
        check.due("begins(-1)", ring.begins(-1), -2);
        check.due("left 4 of 5", Check.ringOf("stand 5;left 4;").begins(2), Check.bits(1, 2, 3, 4));
        check.due("chooses(0)", ring.chooses(0), -1);
        check.due("chooses(-1)", ring.chooses(-1), -1);
        check.due("chooses(32)", ring.chooses(32), -1);
        check.due("two, one is left", ring.chooses(3), -1);
        check.due("by 1 from 2 on", ring.chooses(Check.bits(1)), 1);
        check.due("by 3 from 2 on", ring.chooses(Check.bits(0)), 3);
        PostRing many = Check.ringOf("stand 5;left 2;");
        check.due("just two", many.chooses(Check.bits(3, 4)), 1);
        check.due("by 3", many.chooses(Check.bits(1, 3)), 3);
        check.due("all are left", Check.ringOf("stand 3;left 3;").chooses(7), 1);
        check.due("it stays", ring.about(2), 2);
        // Of 60, 55 are left, by each number other ones.
        for (int k = 998; k <= 1000; k++) {
            long set = (1L << 60) - 1;
            for (int post : Model.plain(60, k).subList(0, 5)) {
                set &= ~(1L << post);
            }
            check.due("by " + k, Check.ringOf("stand 60;left 55;count going;").chooses(set), k <= 999 ? k : -1);
        }
        check.due("60 posts", Check.ringOf("stand 60;left 59;").chooses(1L << 59), 1);
    }

    private static void orders() {
        PostRing ring = Check.ringOf("stand 5;");
        check.due("empty", ring.judge(), -1);
        check.due("order(-1)", ring.order(-1), -1);
        check.due("order(60)", ring.order(60), -1);
        check.due("keep(1)", ring.keep(1), -1);
        check.due("keep(-1)", ring.keep(-1), -1);
        check.due("keep(0)", ring.keep(0), 0);
        int[] order = {2, 0, 4, 1};
        for (int i = 0; i < 4; i++) {
            check.due("order", ring.order(order[i]), i + 1);
            check.due("right so far", ring.judge(), -1);
        }
        ring.go(3);
        check.due("from where it stood at first", ring.judge(), -1);
        check.due("one too many", ring.order(3) * 10 + ring.judge(), 54);
        check.due("keep(2)", ring.keep(2), 2);
        check.due("wrong", ring.order(59) * 10 + ring.judge(), 32);
        check.due("about(8)", ring.about(8), 3);
        check.due("keep(4)", ring.keep(4), -1);
        check.due("keep(3)", ring.keep(3), 3);
        for (int i = 4; i <= 60; i++) {
            check.due("order", ring.order(0), i);
        }
        check.due("there are 60", ring.order(0), -1);
        check.due("about(8)", ring.about(8), 60);
    }

    private static void boxes() {
        PostRing ring = Check.ringOf("stand 9;count last+2;boy 4;turn 3;again 1;");
        check.due("image(-1)", ring.image(-1), -1);
        check.due("image(3)", ring.image(3), -1);
        check.due("back(-1)", ring.back(-1), -1);
        check.due("back(3)", ring.back(3), -1);
        check.due("back(0)", ring.back(0), -1);
        check.due("image(2)", ring.image(2), 0);
        ring.go(5);
        check.due("image(0)", ring.image(0), 5);
        long left = ring.left();
        int first = ring.about(10);
        int second = ring.about(11);
        ring.order(3);
        ring.sight(5, 1, 1);
        ring.go(1000);
        check.due("image(1)", ring.image(1), ring.about(2));
        check.due("back(0)", ring.back(0), 5);
        check.due("left() by last", ring.left(), left);
        check.due("first boy", ring.about(10), first);
        check.due("second boy", ring.about(11), second);
        check.due("turned", ring.about(12), 1);
        check.due("the order stays", ring.about(8), 1);
        check.due("sights stay", ring.about(5), 1);
        ring.go(1);
        check.due("back(0) again", ring.back(0), 5);
        check.due("back(1)", ring.back(1) > 5, true);
        check.due("ended", ring.about(1), 1);
        check.due("back(2)", ring.back(2), 0);
        check.due("all stand", ring.about(1), 9);
        check.due("none went", ring.went(0), -1);
        check.due("none was hit", ring.post(3, 1), 0);
        ring.go(2);
        check.due("image(0) anew", ring.image(0), 2);
        ring.go(1000);
        check.due("back(0) anew", ring.back(0), 2);
    }

    private static void about() {
        PostRing ring = new PostRing();
        check.due("about(13)", ring.about(13), -1);
        check.due("about(-1)", ring.about(-1), -1);
        check.due("about(least)", ring.about(Integer.MIN_VALUE), -1);
        check.due("NONE", PostRing.NONE, -1);
        ring.feed(0, 0, 0, 0, 0);
        check.due("about(7)", ring.about(7), 20);
    }
}

import java.util.ArrayList;
import java.util.List;
import java.util.function.Consumer;
import java.util.function.Supplier;
import java.util.function.ToLongFunction;

/** Behind a call that is refused, or that only asks, a ring answers as one that was never called so. */
public final class RefusedTest {
    private static final Check check = new Check("RefusedTest");
    private static final int[] ODD = {-1, Integer.MIN_VALUE, Integer.MAX_VALUE};

    private static final class Call {
        final String name;
        final ToLongFunction<PostRing> call;

        Call(String name, ToLongFunction<PostRing> call) {
            this.name = name;
            this.call = call;
        }
    }

    public static void main(String[] args) {
        refused("anywhere", RefusedTest::busy, refusals());
        refused("anywhere", PostRing::new, refusals());
        refused("with a full tape", () -> with(ring -> Check.put(ring, "stand 7;" + " ".repeat(1192))),
            List.of(new Call("feed", ring -> ring.feed(0x24242424, 1, 2, 3, 4)), new Call("end", ring -> ring.end(1201))));
        refused("with 1,181 bytes", () -> with(ring -> Check.put(ring, "stand 7;" + " ".repeat(1173))),
            List.of(new Call("feed", ring -> ring.feed(0x24242424, 1, 2, 3, 4)), new Call("end", ring -> ring.end(1182))));
        refused("with a full order", () -> with(ring -> repeat(60, () -> ring.order(3))),
            List.of(new Call("order", ring -> ring.order(3)), new Call("keep", ring -> ring.keep(61))));
        refused("with 40 sights", () -> with(ring -> repeat(40, () -> ring.sight(5, 1, 2))),
            List.of(new Call("sight", ring -> ring.sight(5, 1, 3)), new Call("untell", ring -> ring.untell(40) ? 1 : -1)));
        refused("at the last time", () -> with(ring -> repeat(100, () -> ring.later(1000))),
            List.of(new Call("later", ring -> ring.later(1)), new Call("later", ring -> ring.later(1000))));
        refused("at the end", () -> with(ring -> ring.go(1000)), refusals());
        asked(RefusedTest::busy);
        asked(PostRing::new);
        asked(() -> with(ring -> ring.go(1000)));
        done();
        check.close();
    }

    private static void repeat(int times, Runnable call) {
        for (int i = 0; i < times; i++) {
            call.run();
        }
    }

    private static PostRing with(Consumer<PostRing> calls) {
        PostRing ring = Check.ringOf("stand 7;count 2+going;person p worth 3;drawn 2 weight 5;");
        calls.accept(ring);
        return ring;
    }

    /** Something of all there is, with a text on the tape that would be another ring. */
    private static PostRing busy() {
        PostRing ring = Check.ringOf("stand 9;begin 2;left 2;count last+going*2;turn 3;again 1;boy 5;guard 1 to 2;rhyme a bb;"
            + "person p worth 7;person q worth 9;drawn 2 weight 3;drawn 5 weight 4;");
        ring.go(4);
        ring.image(0);
        ring.go(6);
        ring.image(1);
        ring.go(1);
        for (int post : new int[] {3, 1, 59}) {
            ring.order(post);
        }
        ring.sight(5, 1, 2);
        ring.later(2);
        ring.sight(6, 2, 1);
        ring.untell(0);
        ring.later(1);
        Check.put(ring, "stand 8;left 3;count 4;");
        return ring;
    }

    private static List<Call> refusals() {
        List<Call> calls = new ArrayList<>();
        for (int odd : ODD) {
            calls.add(new Call("end " + odd, ring -> ring.end(odd)));
            calls.add(new Call("go " + odd, ring -> ring.go(odd)));
            calls.add(new Call("order " + odd, ring -> ring.order(odd)));
            calls.add(new Call("keep " + odd, ring -> ring.keep(odd)));
            calls.add(new Call("sight n " + odd, ring -> ring.sight(odd, 1, 0)));
            calls.add(new Call("sight i " + odd, ring -> ring.sight(5, odd, 0)));
            calls.add(new Call("sight post " + odd, ring -> ring.sight(5, 1, odd)));
            calls.add(new Call("untell " + odd, ring -> ring.untell(odd) ? 1 : -1));
            calls.add(new Call("later " + odd, ring -> ring.later(odd)));
            calls.add(new Call("image " + odd, ring -> ring.image(odd)));
            calls.add(new Call("back " + odd, ring -> ring.back(odd)));
            calls.add(new Call("fault " + odd, ring -> ring.fault(odd)));
            calls.add(new Call("late " + odd, ring -> ring.late(odd)));
            calls.add(new Call("stay " + odd, ring -> ring.stay(odd)));
            calls.add(new Call("about " + odd, ring -> ring.about(odd)));
        }
        calls.add(new Call("end", ring -> ring.end(1200)));
        calls.add(new Call("go", ring -> ring.go(1001)));
        calls.add(new Call("order", ring -> ring.order(60)));
        calls.add(new Call("keep", ring -> ring.keep(60)));
        calls.add(new Call("sight 61", ring -> ring.sight(61, 1, 0)));
        calls.add(new Call("sight 0", ring -> ring.sight(0, 1, 0)));
        calls.add(new Call("sight i 6", ring -> ring.sight(5, 6, 0)));
        calls.add(new Call("sight i 0", ring -> ring.sight(5, 0, 0)));
        calls.add(new Call("sight post 5", ring -> ring.sight(5, 1, 5)));
        calls.add(new Call("untell what is none", ring -> ring.untell(2) ? 1 : -1));
        calls.add(new Call("untell what is so already", ring -> ring.untell(0) ? 1 : -1));
        calls.add(new Call("later", ring -> ring.later(1001)));
        calls.add(new Call("image", ring -> ring.image(3)));
        calls.add(new Call("back where nothing was kept", ring -> ring.back(2)));
        calls.add(new Call("back", ring -> ring.back(3)));
        return calls;
    }

    private static void refused(String where, Supplier<PostRing> make, List<Call> calls) {
        String want = Observed.all(make.get());
        for (Call call : calls) {
            PostRing ring = make.get();
            check.due(call.name + " is refused " + where, call.call.applyAsLong(ring), -1);
            check.same(call.name + " " + where + " has changed nothing", Observed.all(ring), want);
        }
    }

    /** What only asks, for what can be and for what can't. */
    private static void asked(Supplier<PostRing> make) {
        List<Call> calls = new ArrayList<>();
        calls.add(new Call("left", PostRing::left));
        calls.add(new Call("meet", PostRing::meet));
        calls.add(new Call("judge", PostRing::judge));
        for (int n : new int[] {0, 1, 5, 8, 9, 60, 61, 300}) {
            calls.add(new Call("post " + n, ring -> ring.post(n, 1)));
            calls.add(new Call("went " + n, ring -> ring.went(n)));
            calls.add(new Call("when " + n, ring -> ring.when(n)));
            calls.add(new Call("late " + n, ring -> ring.late(n)));
            calls.add(new Call("bribe " + n, ring -> ring.bribe(n)));
            calls.add(new Call("stay " + n, ring -> ring.stay(n)));
            calls.add(new Call("begins " + n, ring -> ring.begins(n)));
            calls.add(new Call("chooses " + n, ring -> ring.chooses(n)));
            calls.add(new Call("far " + n, ring -> ring.far(n, 3, 1)));
            calls.add(new Call("at " + n, ring -> ring.at(n, 3, 0)));
            calls.add(new Call("size " + n, ring -> ring.size(3, n, 0)));
            calls.add(new Call("keeps " + n, ring -> ring.keeps(n, 1)));
            calls.add(new Call("first " + n, ring -> ring.first(n, 1)));
            calls.add(new Call("number " + n, ring -> ring.number(n)));
            calls.add(new Call("guess " + n, ring -> ring.guess(n, 1)));
            calls.add(new Call("never " + n, ring -> ring.never(n, 9)));
            calls.add(new Call("often " + n, ring -> ring.often(n, 9, 0)));
            calls.add(new Call("ever " + n, ring -> ring.ever(n)));
            calls.add(new Call("chance " + n, ring -> ring.chance(n, 0, 0)));
            calls.add(new Call("choice " + n, ring -> ring.choice(n, 1)));
            calls.add(new Call("expected " + n, ring -> ring.expected(n, 1, 0)));
            calls.add(new Call("fits " + n, ring -> ring.fits(n, 2)));
            calls.add(new Call("ask " + n, ring -> ring.ask(n, 0, 2)));
            calls.add(new Call("about " + n, ring -> ring.about(n)));
            calls.add(new Call("fault " + n, ring -> ring.fault(n)));
        }
        String want = Observed.all(make.get());
        for (Call call : calls) {
            PostRing ring = make.get();
            long once = call.call.applyAsLong(ring);
            check.due(call.name + " answers the same twice", call.call.applyAsLong(ring), once);
            check.same(call.name + " has only asked", Observed.all(ring), want);
        }
    }

    /** The other way about: what is not refused is seen, so that the rows above can tell. */
    private static void done() {
        List<Call> calls = List.of(new Call("feed", ring -> ring.feed(0x20202020, 0x20202020, 0x20202020, 0x20202020, 0x20202020)),
            new Call("end", ring -> ring.end(8)), new Call("ring", PostRing::ring), new Call("go", ring -> ring.go(1)),
            new Call("order", ring -> ring.order(1)), new Call("keep", ring -> ring.keep(2)),
            new Call("sight", ring -> ring.sight(5, 3, 4)), new Call("untell", ring -> ring.untell(1) ? 1 : -1),
            new Call("later", ring -> ring.later(1)), new Call("image", ring -> ring.image(0)),
            new Call("image", ring -> ring.image(2)), new Call("back", ring -> ring.back(0)));
        String before = Observed.all(busy());
        for (Call call : calls) {
            PostRing ring = busy();
            check.due(call.name + " is done", call.call.applyAsLong(ring) >= 0, true);
            check.due(call.name + " is seen", Observed.all(ring).equals(before), false);
        }
    }
}

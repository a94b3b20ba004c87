/** All that a ring answers, in one text: two rings with alike texts are in alike states. */
final class Observed {
    private Observed() {
    }

    /** Everything, what is on the tape and in the boxes too; the ring can't be used behind that. */
    static String all(PostRing ring) {
        StringBuilder row = new StringBuilder(asked(ring));
        row.append(" fault ").append(ring.fault(0)).append(' ').append(ring.fault(1));
        row.append(boxes(ring));
        row.append(" tape ").append(ring.ring()).append(' ').append(ring.fault(0)).append(' ').append(ring.fault(1));
        return row.append(asked(ring)).toString();
    }

    /** What can be asked without a change; some 150 calls for a ring of nine. */
    static String asked(PostRing ring) {
        StringBuilder row = new StringBuilder(course(ring));
        int posts = Math.min(9, ring.about(0));
        for (int what = 0; what < 10; what++) {
            row.append(' ').append(ring.about(what));
        }
        row.append(" left ").append(ring.left()).append(" meet ").append(ring.meet());
        row.append(" judge ").append(ring.judge()).append(" number ").append(ring.number(9));
        row.append(" guess ").append(ring.guess(9, 0)).append(' ').append(ring.guess(9, 1));
        row.append(" late ").append(ring.late(0)).append(' ').append(ring.late(3));
        row.append(" stay ").append(ring.stay(1)).append(' ').append(ring.stay(4));
        for (int post = 0; post < posts; post += 2) {
            row.append(" at ").append(post).append(": ").append(ring.when(post)).append(' ').append(ring.bribe(post));
            row.append(' ').append(ring.begins(post)).append(' ').append(ring.chooses(1L << post));
            row.append(' ').append(ring.chance(9, post, 0)).append(' ').append(ring.chance(9, post, 1));
        }
        for (int person = 0; person < 3; person++) {
            row.append(" person ").append(ring.choice(9, person)).append(' ').append(ring.expected(9, person, 0));
        }
        int now = ring.about(6);
        for (int time = now; time >= 0 && time > now - 4; time--) {
            row.append(" known ").append(ring.fits(0, time)).append(' ').append(ring.fits(1, time));
        }
        return row.append(" ask ").append(ring.ask(5, 0, now)).append(' ').append(ring.ask(5, 1, now)).toString();
    }

    /** How far the going has come. */
    static String course(PostRing ring) {
        StringBuilder row = new StringBuilder();
        for (int what : new int[] {1, 2, 10, 11, 12}) {
            row.append(' ').append(ring.about(what));
        }
        int posts = Math.min(9, ring.about(0));
        for (int post = 0; post < posts; post++) {
            row.append(" post ").append(ring.post(post, 0)).append(' ').append(ring.post(post, 1)).append(' ').append(ring.post(post, 2));
            row.append(" went ").append(ring.went(post));
        }
        return row.append(" left ").append(ring.left()).toString();
    }

    /** What the boxes hold; all is as it was in the last of them behind that. */
    static String boxes(PostRing ring) {
        StringBuilder row = new StringBuilder();
        for (int box = 0; box < 3; box++) {
            row.append(" box ").append(ring.back(box)).append(course(ring));
        }
        return row.toString();
    }
}

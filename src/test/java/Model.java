import java.util.ArrayList;
import java.util.List;

/** The document's rings in their most literal form: post by post, one by one. */
final class Model {
    interface Count {
        int value(Model model, State state);
    }

    /** Where the going stands. */
    static final class State {
        boolean[] stands;
        int[] hits;
        int[] wentIn;
        List<Integer> went = new ArrayList<>();
        int goings;
        int last;
        int[] boyAt = {-1, -1};
        boolean turned;

        State copy() {
            State state = new State();
            state.stands = stands.clone();
            state.hits = hits.clone();
            state.wentIn = wentIn.clone();
            state.went = new ArrayList<>(went);
            state.goings = goings;
            state.last = last;
            state.boyAt = boyAt.clone();
            state.turned = turned;
            return state;
        }

        int here() {
            int many = 0;
            for (boolean one : stands) {
                many += one ? 1 : 0;
            }
            return many;
        }

        long bits() {
            long set = 0;
            for (int i = 0; i < stands.length; i++) {
                set |= stands[i] ? 1L << i : 0L;
            }
            return set;
        }
    }

    int posts = 1;
    int begin;
    int left = 1;
    int turn;
    int again;
    int boy = -1;
    int words;
    int signs;
    boolean[] guarded = new boolean[60];
    Count count = (model, state) -> 3;

    State start() {
        State state = new State();
        state.stands = new boolean[posts];
        state.hits = new int[posts];
        state.wentIn = new int[posts];
        for (int i = 0; i < posts; i++) {
            state.stands[i] = true;
            state.wentIn[i] = -1;
        }
        return state;
    }

    int counted(State state) {
        state.goings++;
        int value = count.value(this, state);
        state.goings--;
        return value < 1 ? 1 : value > 999 ? 999 : value;
    }

    void going(State state, int number) {
        state.goings++;
        int who = boy >= 0 && state.goings % 2 == 0 ? 1 : 0;
        int way = (who == 0) != state.turned ? 1 : -1;
        int at = state.boyAt[who];
        int left = number;
        int place = at < 0 ? (who == 0 ? begin : boy) % posts : (at + way + posts) % posts;
        while (true) {
            if (state.stands[place]) {
                left--;
                if (left == 0) {
                    break;
                }
            }
            place = (place + way + posts) % posts;
        }
        state.boyAt[who] = place;
        state.last = number;
        state.hits[place]++;
        if (state.hits[place] == again + (guarded[place] ? 2 : 1)) {
            state.stands[place] = false;
            state.wentIn[place] = state.goings;
            state.went.add(place);
        }
        if (turn > 0 && state.goings % turn == 0) {
            state.turned = !state.turned;
        }
    }

    int go(State state, int most, int till) {
        int made = 0;
        while (made < most && state.here() > till) {
            going(state, counted(state));
            made++;
        }
        return made;
    }

    State toEnd(State from) {
        State state = from.copy();
        go(state, Integer.MAX_VALUE, left);
        return state;
    }

    long late(State now, int n) {
        State then = now.copy();
        go(then, n, left);
        long good = 0;
        for (int post = 0; post < posts; post++) {
            if (!then.stands[post]) {
                State state = then.copy();
                state.stands[post] = true;
                state.hits[post] = 0;
                go(state, Integer.MAX_VALUE, left);
                good |= state.stands[post] ? 1L << post : 0L;
            }
        }
        return good;
    }

    int bribe(State now, int post) {
        State end = toEnd(now);
        if (!now.stands[post] || end.stands[post]) {
            return -1;
        }
        for (int bribed = now.goings + 1; bribed <= end.goings; bribed++) {
            State state = now.copy();
            while (state.here() > left) {
                int number = counted(state);
                going(state, state.goings + 1 == bribed ? number + 1 : number);
            }
            if (state.stands[post]) {
                return bribed;
            }
        }
        return -1;
    }

    int meet(State now) {
        State state = now.copy();
        while (boy >= 0 && state.here() > left) {
            going(state, counted(state));
            int a = state.boyAt[0];
            int b = state.boyAt[1];
            if (a >= 0 && b >= 0 && (a == b || (a + 1) % posts == b || (b + 1) % posts == a)) {
                return state.goings;
            }
        }
        return -1;
    }

    long begins(int post) {
        int was = begin;
        long good = 0;
        for (int other = 0; other < posts; other++) {
            begin = other;
            good |= toEnd(start()).stands[post] ? 1L << other : 0L;
        }
        begin = was;
        return good;
    }

    int chooses(long set) {
        Count was = count;
        int found = -1;
        for (int number = 1; number <= 999 && found < 0; number++) {
            int fixed = number;
            count = (model, state) -> fixed;
            found = (toEnd(start()).bits() & set) == set ? number : -1;
        }
        count = was;
        return found;
    }

    /** The whole order in which a plain ring goes. */
    static List<Integer> plain(int n, int k) {
        List<Integer> ring = new ArrayList<>();
        for (int i = 0; i < n; i++) {
            ring.add(i);
        }
        List<Integer> order = new ArrayList<>();
        int at = 0;
        while (!ring.isEmpty()) {
            at = (at + k - 1) % ring.size();
            order.add(ring.remove(at));
        }
        return order;
    }

    /** The order of a ring by a rule a, b, t; so many of it. */
    static List<Integer> byRule(int n, int a, int b, int t, int many) {
        boolean[] gone = new boolean[n];
        List<Integer> order = new ArrayList<>();
        int way = 1;
        int at = -1;
        for (int going = 1; going <= many; going++) {
            int rest = going % 2 == 1 ? a : b;
            while (rest > 0) {
                at = (at + way + n) % n;
                rest -= gone[at] ? 0 : 1;
            }
            gone[at] = true;
            order.add(at);
            if (t > 0 && going % t == 0) {
                way = -way;
            }
        }
        return order;
    }
}

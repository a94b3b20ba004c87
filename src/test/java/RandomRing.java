import java.util.Random;

/** A text of a ring drawn at random, and the model that it tells. */
final class RandomRing {
    final Model model = new Model();
    final String text;
    int units;
    private final Random random;

    RandomRing(long seed, int mostPosts) {
        random = new Random(seed);
        StringBuilder lines = new StringBuilder();
        boolean countFirst = random.nextBoolean();
        if (countFirst) {
            addCount(lines);
        }
        addNumbers(lines, mostPosts);
        addRhyme(lines);
        if (!countFirst) {
            addCount(lines);
        }
        text = lines.toString();
    }

    private boolean chance(int of) {
        return random.nextInt(of) == 0;
    }

    private String gap() {
        return chance(4) ? chance(2) ? "\n" : "  " : "";
    }

    private int upTo(int most) {
        return random.nextInt(most + 1);
    }

    private void line(StringBuilder lines, String word, int number) {
        lines.append(gap()).append(word).append(gap()).append(number).append(gap()).append(';');
    }

    private void addNumbers(StringBuilder lines, int mostPosts) {
        if (chance(2)) {
            model.begin = upTo(59);
            line(lines, "begin", model.begin);
        }
        model.posts = 1 + random.nextInt(mostPosts);
        line(lines, "stand", model.posts);
        if (chance(2)) {
            model.left = 1 + random.nextInt(chance(3) ? 59 : 4);
            line(lines, "left", model.left);
        }
        if (chance(2)) {
            model.turn = 1 + random.nextInt(chance(3) ? 99 : 5);
            line(lines, "turn", model.turn);
        }
        if (chance(2)) {
            model.again = upTo(chance(3) ? 9 : 2);
            line(lines, "again", model.again);
        }
        if (chance(2)) {
            model.boy = upTo(59);
            line(lines, "boy", model.boy);
        }
        for (int guards = upTo(8); guards > 0 && chance(2); guards--) {
            int from = upTo(59);
            int to = from + random.nextInt(60 - from);
            lines.append("guard ").append(from).append(" to").append(gap()).append(to).append(";");
            for (int i = from; i <= to; i++) {
                model.guarded[i] = true;
            }
        }
    }

    private void addRhyme(StringBuilder lines) {
        if (chance(2)) {
            lines.append(gap()).append("rhyme ");
            model.words = 1 + random.nextInt(24);
            for (int i = 0; i < model.words; i++) {
                int letters = 1 + random.nextInt(8);
                lines.append("zyxzyxzy", 0, letters).append(chance(2) ? "\n" : " ");
                model.signs += letters;
            }
            lines.append(';');
        }
    }

    private void addCount(StringBuilder lines) {
        if (chance(8)) {
            return;
        }
        StringBuilder e = new StringBuilder();
        model.count = either(e, 0);
        lines.append("count ").append(e).append(gap()).append(';');
    }

    private boolean more() {
        return units < 30 && chance(3);
    }

    private Model.Count either(StringBuilder e, int depth) {
        Model.Count value = both(e, depth);
        while (more() && chance(2)) {
            e.append(" or ");
            Model.Count a = value;
            Model.Count b = both(e, depth);
            value = (m, s) -> truth(a.value(m, s) != 0 | b.value(m, s) != 0);
        }
        return value;
    }

    private Model.Count both(StringBuilder e, int depth) {
        Model.Count value = one(e, depth);
        while (more() && chance(2)) {
            e.append("\nand ");
            Model.Count a = value;
            Model.Count b = one(e, depth);
            value = (m, s) -> truth(a.value(m, s) != 0 & b.value(m, s) != 0);
        }
        return value;
    }

    private Model.Count one(StringBuilder e, int depth) {
        if (depth < 7 && chance(6)) {
            e.append("not ");
            Model.Count a = one(e, depth + 1);
            return (m, s) -> truth(a.value(m, s) == 0);
        }
        Model.Count a = sum(e, depth);
        if (!chance(4)) {
            return a;
        }
        char sign = "<>=".charAt(random.nextInt(3));
        e.append(gap()).append(sign).append(gap());
        Model.Count b = sum(e, depth);
        return (m, s) -> truth(sign == '<' ? a.value(m, s) < b.value(m, s)
            : sign == '>' ? a.value(m, s) > b.value(m, s) : a.value(m, s) == b.value(m, s));
    }

    private Model.Count sum(StringBuilder e, int depth) {
        Model.Count value = term(e, depth);
        while (more()) {
            boolean plus = random.nextBoolean();
            e.append(gap()).append(plus ? '+' : '-').append(gap());
            Model.Count a = value;
            Model.Count b = term(e, depth);
            value = (m, s) -> plus ? a.value(m, s) + b.value(m, s) : a.value(m, s) - b.value(m, s);
        }
        return value;
    }

    private Model.Count term(StringBuilder e, int depth) {
        Model.Count value = unit(e, depth);
        while (more()) {
            boolean times = random.nextBoolean();
            e.append(gap()).append(times ? '*' : '/').append(gap());
            Model.Count a = value;
            Model.Count b = unit(e, depth);
            value = (m, s) -> times ? a.value(m, s) * b.value(m, s) : cut(a.value(m, s), b.value(m, s));
        }
        return value;
    }

    private Model.Count unit(StringBuilder e, int depth) {
        units++;
        if (depth < 7 && units < 30 && chance(4)) {
            e.append('(').append(gap());
            Model.Count value = either(e, depth + 1);
            e.append(gap()).append(')');
            return value;
        }
        switch (random.nextInt(8)) {
            case 0:
                e.append("going ");
                return (m, s) -> s.goings;
            case 1:
                e.append("here ");
                return (m, s) -> s.here();
            case 2:
                e.append("last ");
                return (m, s) -> s.last;
            case 3:
                e.append("words ");
                return (m, s) -> m.words;
            case 4:
                e.append("signs ");
                return (m, s) -> m.signs;
            default:
                int number = upTo(chance(4) ? 9999 : 12);
                e.append(number).append(' ');
                return (m, s) -> number;
        }
    }

    private static int truth(boolean holds) {
        return holds ? 1 : 0;
    }

    private static int cut(int a, int b) {
        return b == 0 ? 0 : a / b;
    }
}

import java.util.Random;

/** FAULTS, by number and place, in texts spoilt at random, against a second reading of the text. */
public final class FaultsTest {
    private static final Check check = new Check("FaultsTest");
    private static final String[] PIECES = {"stand", "begin", "left", "count", "turn", "again", "boy", "guard", "to", "rhyme",
        "person", "worth", "drawn", "weight", "or", "and", "not", "going", "here", "last", "words", "signs", ";", "(", ")",
        "<", ">", "=", "+", "-", "*", "/", " ", "\n", "0", "1", "9", "10", "59", "60", "61", "99", "100", "999", "1000",
        "9999", "10000", "a", "b", "zzzzzzzz", "zzzzzzzzz", "5a", "$", "\t", "\u00ff", "((((", "))))", "not not not ",
        "+1+1+1+1+1+1+1+1+1+1", "person a worth 1;", "drawn 5 weight 5;", "guard 1 to 2;", "count 1;", "stand 5;"};

    public static void main(String[] args) {
        int[] seen = new int[5];
        for (int seed = 0; seed < 12000; seed++) {
            Random random = new Random(seed);
            String text = spoilt(whole(random), random);
            TextModel model = new TextModel(text);
            PostRing ring = new PostRing();
            Check.put(ring, text);
            check.due("ring() of '" + text + "'", ring.ring(), model.fault == 0 ? model.posts : -1);
            check.due("fault(0) of '" + text + "'", ring.fault(0), model.fault);
            check.due("fault(1) of '" + text + "'", ring.fault(1), model.place);
            seen[model.fault]++;
        }
        for (int fault = 0; fault < seen.length; fault++) {
            check.due("texts with fault " + fault, seen[fault] > 50, true);
        }
        check.close();
    }

    private static String whole(Random random) {
        StringBuilder text = new StringBuilder(new RandomRing(random.nextLong(), 60).text);
        for (int i = random.nextInt(4); i > 0; i--) {
            text.append("person ").append((char) ('a' + random.nextInt(9))).append(" worth ").append(random.nextInt(1000)).append(';');
        }
        for (int i = random.nextInt(4); i > 0; i--) {
            text.append("drawn ").append(1 + random.nextInt(12)).append(" weight ").append(1 + random.nextInt(99)).append(";\n");
        }
        return text.toString();
    }

    private static String spoilt(String whole, Random random) {
        StringBuilder text = new StringBuilder(whole);
        for (int i = random.nextInt(3); i > 0 && text.length() > 0; i--) {
            int at = random.nextInt(text.length());
            switch (random.nextInt(4)) {
                case 0: text.deleteCharAt(at); break;
                case 1: text.insert(at, PIECES[random.nextInt(PIECES.length)]); break;
                case 2: text.setLength(at); break;
                default: text.replace(at, Math.min(text.length(), at + 1 + random.nextInt(9)), PIECES[random.nextInt(PIECES.length)]); break;
            }
        }
        // Whole lines too often, so that some sort comes to its bound.
        if (random.nextInt(6) == 0) {
            text.append(PIECES[PIECES.length - 1 - random.nextInt(5)].repeat(1 + random.nextInt(13)));
        }
        text.setLength(Math.min(1200, text.length()));
        return text.toString();
    }
}

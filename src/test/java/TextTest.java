/** Promises 2 to 5: the tape, the text of a ring and its faults. */
public final class TextTest {
    private static final Check check = new Check("TextTest");

    public static void main(String[] args) {
        tape();
        bytesInOrder();
        tokens();
        lines();
        numbers();
        repeats();
        counts();
        units();
        depths();
        rhymes();
        told();
        ringAfterFault();
        check.close();
    }

    private static void tape() {
        PostRing ring = new PostRing();
        check.due("empty", ring.about(7), 0);
        check.due("end(1)", ring.end(1), -1);
        check.due("end(-1)", ring.end(-1), -1);
        check.due("end(0)", ring.end(0), 0);
        for (int i = 1; i <= 60; i++) {
            check.due("feed", ring.feed(i, 0, -1, Integer.MIN_VALUE, Integer.MAX_VALUE), 20 * i);
        }
        check.due("full", ring.feed(0, 0, 0, 0, 0), -1);
        check.due("still full", ring.about(7), 1200);
        check.due("end(1201)", ring.end(1201), -1);
        check.due("end(1181)", ring.end(1181), 1181);
        check.due("20 are too many", ring.feed(0, 0, 0, 0, 0), -1);
        check.due("about(7)", ring.about(7), 1181);
        check.due("end(1180)", ring.end(1180), 1180);
        check.due("20 fit", ring.feed(0, 0, 0, 0, 0), 1200);
        check.due("end(least)", ring.end(Integer.MIN_VALUE), -1);
        check.due("end(greatest)", ring.end(Integer.MAX_VALUE), -1);
        StringBuilder blanks = new StringBuilder("stand 7;");
        while (blanks.length() < 1200) {
            blanks.append(blanks.length() % 2 == 0 ? ' ' : '\n');
        }
        check.fine(blanks.toString(), 7);
    }

    private static void bytesInOrder() {
        PostRing ring = new PostRing();
        // s t a n | d _ 1 2 | ; _ _ _ | ____ | ____ : the highest byte comes first.
        check.due("feed", ring.feed(0x7374616e, 0x64203132, 0x3b202020, 0x20202020, 0x20202020), 20);
        check.due("end(0)", ring.end(0), 0);
        check.due("ring of no text", ring.ring(), 1);
        ring.feed(0x7374616e, 0x64203132, 0x3b202020, 0x20202020, 0x0a0a0a0a);
        check.due("ring()", ring.ring(), 12);
        check.due("the tape is empty then", ring.about(7), 0);
        ring.feed(0x7374616e, 0x64203132, 0x3b202020, 0x20202020, 0x200920ff);
        check.due("a byte that is no token", ring.ring(), -1);
        check.due("its place", ring.fault(1), 17);
        check.due("the tape is empty then", ring.about(7), 0);
    }

    private static void tokens() {
        for (char sign : new char[] {0, 9, 13, '!', '$', ',', '.', ':', '?', 'A', 'Z', '[', '`', '{', '~', 127, 128, 200, 255}) {
            check.faulty(String.valueOf(sign), 1, 0);
            check.faulty("stand 3" + sign + ";", 1, 7);
        }
        check.faulty("stand 5a;", 1, 6);
        check.faulty("stand 5stand", 1, 6);
        check.faulty("stand 99a", 1, 6);
        check.faulty("count 1or 2;", 1, 6);
        check.fine("count 1 or 2;", 1);
        check.faulty("stand 00005;", 1, 6);
        check.fine("stand 0005;", 5);
        check.faulty("rhyme abcdefghi;", 1, 6);
        check.fine("rhyme abcdefgh;", 1);
        check.fine("rhyme a\nb;\nstand\n5\n;", 5);
        check.fine("stand5;begin3;count(1)or(2);", 5);
        check.faulty("standx 5;", 2, 0);
        check.faulty("sta nd 5;", 2, 0);
        check.faulty("stand 1 2;", 2, 8);
        check.faulty("rhyme a9;", 2, 7);
        check.faulty("stand 61$", 4, 6);
        check.faulty("x$", 2, 0);
    }

    private static void lines() {
        String[] good = {"stand 5;", "begin 5;", "left 5;", "count 5;", "turn 5;", "again 5;", "boy 5;",
            "guard 5 to 6;", "rhyme a;", "person a worth 5;", "drawn 5 weight 5;"};
        for (String line : good) {
            check.fine(line, line.charAt(0) == 's' ? 5 : 1);
            check.faulty(line.substring(0, line.length() - 1), 2, line.length() - 1);
            check.faulty(line.substring(0, line.length() - 1) + " \n", 2, line.length() + 1);
            check.faulty(line.substring(0, line.indexOf(' ')), 2, line.indexOf(' '));
            check.faulty(line.substring(0, line.indexOf(' ') + 1) + ";", 2, line.indexOf(' ') + 1);
            check.faulty(line + ";", 2, line.length());
            check.faulty(line + "x", 2, line.length());
        }
        for (String word : new String[] {"to", "worth", "weight", "or", "and", "not", "going", "here", "last",
            "words", "signs", "x", "5", ";", "("}) {
            check.faulty(word, 2, 0);
        }
        check.faulty("guard 5 6;", 2, 8);
        check.faulty("guard 5 to ;", 2, 11);
        check.faulty("person a 5;", 2, 9);
        check.faulty("person a worth b;", 2, 15);
        check.faulty("person 5 worth 5;", 2, 7);
        check.faulty("person to worth 5;", 2, 7);
        check.faulty("drawn a weight 5;", 2, 6);
        check.faulty("drawn 5 worth 5;", 2, 8);
        check.faulty("drawn 5 weight ;", 2, 15);
        check.faulty("stand 5 begin 3;", 2, 8);
    }

    private static void numbers() {
        String[] lines = {"stand %;", "begin %;", "left %;", "turn %;", "again %;", "boy %;", "guard % to 59;",
            "guard 0 to %;", "person a worth %;", "drawn % weight 1;", "drawn 1 weight %;"};
        int[] least = {1, 0, 1, 1, 0, 0, 0, 0, 0, 1, 1};
        int[] most = {60, 59, 59, 99, 9, 59, 59, 59, 999, 999, 99};
        for (int i = 0; i < lines.length; i++) {
            int place = lines[i].indexOf('%');
            check.fine(lines[i].replace("%", "" + least[i]), 1);
            check.fine(lines[i].replace("%", "" + most[i]), i == 0 ? 60 : 1);
            check.faulty(lines[i].replace("%", "" + (most[i] + 1)), 4, place);
            check.faulty(lines[i].replace("%", "9999"), 4, place);
            if (least[i] == 1) {
                check.faulty(lines[i].replace("%", "0"), 4, place);
            }
        }
        check.faulty("guard 8 to 7;", 4, 11);
        check.fine("guard 8 to 8;", 1);
        check.faulty("guard 60 to 5$", 4, 6);
        check.fine("count 9999;", 1);
        check.fine("count 0;", 1);
    }

    private static void repeats() {
        for (String line : new String[] {"stand 5;", "begin 5;", "left 5;", "count 5;", "turn 5;", "again 5;",
            "boy 5;", "rhyme a;"}) {
            check.faulty(line + "person p worth 1; " + line, 2, line.length() + 18);
        }
        check.fine("guard 1 to 2;".repeat(8), 1);
        check.faulty("guard 1 to 2;".repeat(9), 2, 8 * 13);
        PostRing again = Check.ringOf("guard 1 to 2;".repeat(8));
        Check.put(again, "stand 3;" + "guard 1 to 2;".repeat(8));
        check.due("each ring has 8 guards of its own", again.ring(), 3);
        StringBuilder persons = new StringBuilder();
        for (char name = 'a'; name < 'j'; name++) {
            persons.append("person ").append(name).append(" worth 1;");
        }
        check.fine(persons.toString(), 1);
        check.faulty(persons + "person j worth 1;", 2, persons.length());
        check.faulty(persons + "person a worth 1;", 2, persons.length());
        StringBuilder drawn = new StringBuilder();
        for (int i = 1; i <= 12; i++) {
            drawn.append("drawn ").append(i).append(" weight 1;");
        }
        check.fine(drawn.toString(), 1);
        check.faulty(drawn + "drawn 13 weight 1;", 2, drawn.length());
        check.faulty("person a worth 1;person b worth 2;person a worth 3;", 3, 41);
        check.faulty("person to worth 1;person to", 2, 7);
        check.fine("person ab worth 1;person ba worth 2;person a worth 3;person aa worth 3;", 1);
        check.fine("rhyme a a;person a worth 1;", 1);
        check.faulty("drawn 7 weight 1;drawn 8 weight 1;drawn 007 weight 1;", 3, 40);
    }

    private static void counts() {
        for (String e : new String[] {"1", "going", "here", "last", "words", "signs", "(1)", "not 1", "not not 1",
            "1<2", "1>2", "1=2", "1+2-3*4/5", "1 or 2 and 3 or not 4=5", "(1<2)<3", "not (1 or 2)", "not 1+2<3",
            "1<2 and 2<3", "(not 1)+1"}) {
            check.fine("count " + e + ";", 1);
        }
        String[] bad = {"", "+1", "1+", "1 2", "1<2<3", "1<2=3", "1+not 2", "(1", "1)", "()", "not", "1 not 2",
            "or 1", "1 or", "1 and or 2", "x", "1+x", "1 going", "to", "-1", "1--1", "(1;)", "1<not 2"};
        int[] place = {0, 0, 2, 2, 3, 3, 2, 2, 1, 1, 3, 2, 0, 4, 6, 0, 2, 2, 0, 0, 2, 2, 2};
        for (int i = 0; i < bad.length; i++) {
            check.faulty("count " + bad[i] + ";", 2, 6 + place[i]);
        }
    }

    private static void units() {
        String forty = "count 1" + "+1".repeat(39);
        check.fine(forty + ";", 1);
        check.due("40 units", Check.ringOf(forty + ";").about(9), 40);
        check.faulty(forty + "+1;", 2, forty.length() + 1);
        check.faulty(forty + "+(1);", 2, forty.length() + 1);
        String brackets = "count 1" + "+(1)".repeat(19);
        check.due("a unit ( e ) is one too", Check.ringOf(brackets + ";").about(9), 39);
        check.fine(brackets + "+1;", 1);
        check.faulty(brackets + "+(1);", 2, brackets.length() + 2);
        check.due("no count, no unit", Check.ringOf("stand 3;").about(9), 0);
        check.due("not is no unit", Check.ringOf("count not not here;").about(9), 1);
        check.fine("count " + "not not not not not not not 1 or ".repeat(34) + "1;", 1);
    }

    private static void depths() {
        check.fine("count " + "(".repeat(7) + "1" + ")".repeat(7) + ";", 1);
        check.faulty("count " + "(".repeat(8) + "1" + ")".repeat(8) + ";", 2, 13);
        check.fine("count " + "not ".repeat(7) + "1;", 1);
        check.faulty("count " + "not ".repeat(8) + "1;", 2, 6 + 28);
        check.fine("count not(not(not(not 1)));", 1);
        check.faulty("count not(not(not(not(1))));", 2, 6 + 15);
        check.faulty("count (((((((not 1)))))));", 2, 13);
        check.fine("count (((((((1)))))))+(((((((2)))))))+not not not not not not not 1;".replace("+not", " or not"), 1);
        check.faulty("count " + "(".repeat(400), 2, 13);
        check.faulty("count " + "not ".repeat(200), 2, 34);
    }

    private static void rhymes() {
        check.fine("rhyme " + "a ".repeat(24) + ";", 1);
        check.faulty("rhyme " + "a ".repeat(25) + ";", 2, 6 + 48);
        check.faulty("rhyme a to b;", 2, 8);
        check.faulty("rhyme ;", 2, 6);
        for (String word : new String[] {"stand", "begin", "left", "count", "turn", "again", "boy", "guard", "to",
            "rhyme", "person", "worth", "drawn", "weight", "or", "and", "not", "going", "here", "last", "words",
            "signs"}) {
            check.faulty("rhyme " + word + ";", 2, 6);
            check.faulty("person " + word + " worth 1;", 2, 7);
            check.fine("rhyme " + word + "x;", 1);
        }
        PostRing ring = Check.ringOf("count words*20+signs;stand 60;rhyme a bb ccc;");
        ring.go(1);
        check.due("3 words, 6 signs", ring.about(10), (66 - 1) % 60);
        PostRing bare = Check.ringOf("count words+signs+4;stand 60;");
        bare.go(1);
        check.due("no rhyme", bare.about(10), 3);
    }

    private static void told() {
        PostRing ring = Check.ringOf("begin 59;boy 58;stand 7;guard 5 to 50;again 0;left 2;");
        ring.go(2);
        check.due("begin modulo the posts", ring.about(10), (59 + 2) % 7);
        check.due("boy modulo the posts", ring.about(11), 58 % 7 - 2);
        PostRing plain = new PostRing();
        check.due("without lines: posts", plain.ring(), 1);
        check.due("without lines: persons", plain.about(3), 0);
        check.due("without lines: drawn", plain.about(4), 0);
        PostRing five = Check.ringOf("stand 5;");
        check.due("by 3, from 0, till 1", five.left(), 8);
        check.due("one boy", five.meet(), -1);
        five.go(1);
        check.due("at once", five.went(0), 2);
    }

    private static void ringAfterFault() {
        PostRing ring = Check.ringOf("stand 5;left 2;person a worth 3;drawn 5 weight 6;count 1+2;");
        ring.go(2);
        for (int box = 0; box < 3; box++) {
            ring.image(box);
        }
        ring.order(4);
        ring.sight(5, 1, 2);
        Check.put(ring, "stand 9;left 3;person b worth 1;person c worth 1;count 4;drawn 2 weight 2;$");
        check.due("a fault", ring.ring(), -1);
        int[] stays = {5, 3, 2, 1, 1, 1, 0, 0, 1, 2, 0, -1, 0};
        for (int what = 0; what < stays.length; what++) {
            check.due("about " + what + " stays", ring.about(what), stays[what]);
        }
        check.due("boxes stay", ring.back(1), 2);
        check.due("the count stays", ring.went(1), 0);
        check.due("fault(0)", ring.fault(0), 1);
        check.due("fault(2)", ring.fault(2), -1);
        check.due("fault(-1)", ring.fault(-1), -1);
        Check.put(ring, "stand 4;");
        check.due("ring()", ring.ring(), 4);
        int[] anew = {4, 4, 0, 0, 0, 0, 0, 0, 0, 0, -1, -1, 0};
        for (int what = 0; what < anew.length; what++) {
            check.due("about " + what + " anew", ring.about(what), anew[what]);
        }
        for (int box = 0; box < 3; box++) {
            check.due("boxes are empty", ring.back(box), -1);
        }
        check.due("fault(0)", ring.fault(0), 0);
        check.due("fault(1)", ring.fault(1), -1);
    }
}

import java.util.List;

/** The text of a ring and promises 1 to 5, boundary by boundary; each check names its sentence. */
public final class EdgesOfTextTest {
    private static final Check check = new Check("EdgesOfTextTest");
    private static final List<String> OWN_WORDS = List.of("stand", "begin", "left", "count", "turn", "again", "boy",
        "guard", "to", "rhyme", "person", "worth", "drawn", "weight", "or", "and", "not", "going", "here", "last",
        "words", "signs");
    private static final String SIGNS = ";()<>=+-*/";

    public static void main(String[] args) {
        everyByteAlone();
        everyByteBehindAnN();
        everyByteBehindAWord();
        longestTokens();
        blanksPartThemOrNot();
        namesAndOwnWords();
        lastNumbersTakeEffect();
        firstNumbersThatCantBe();
        withoutLines();
        onceEach();
        asManyAsMayBe();
        rhymeOf24();
        unitsOf40();
        withinSixOthers();
        postsBeyondThePosts();
        firstFaultByPlace();
        leastFaultAtOnePlace();
        faultsAtTheEnd();
        textOf1200();
        promise1();
        promise2();
        promise3();
        promise4();
        ringsBehindOneAnother();
        promise5();
        check.close();
    }

    private static boolean isLetter(int sign) {
        return sign >= 'a' && sign <= 'z';
    }

    private static boolean isDigit(int sign) {
        return sign >= '0' && sign <= '9';
    }

    private static void everyByteAlone() {
        for (int sign = 0; sign < 256; sign++) {
            String text = String.valueOf((char) sign);
            if (sign == 32 || sign == 10) {
                check.fine(text, 1);
            } else if (isLetter(sign) || isDigit(sign) || SIGNS.indexOf(sign) >= 0) {
                check.faulty(text, 2, 0);
            } else {
                check.faulty(text, 1, 0);
            }
        }
    }

    private static void everyByteBehindAnN() {
        for (int sign = 0; sign < 256; sign++) {
            String text = "stand 5" + (char) sign + ";";
            if (isLetter(sign)) {
                check.faulty(text, 1, 6);
            } else if (isDigit(sign)) {
                check.fine(text, 50 + sign - '0');
            } else if (sign == 32 || sign == 10) {
                check.fine(text, 5);
            } else if (sign == ';') {
                check.faulty(text, 2, 8);
            } else {
                check.faulty(text, SIGNS.indexOf(sign) >= 0 ? 2 : 1, 7);
            }
        }
    }

    private static void everyByteBehindAWord() {
        for (int sign = 0; sign < 256; sign++) {
            String text = "stand" + (char) sign + "5;";
            if (isLetter(sign)) {
                check.faulty(text, 2, 0);
            } else if (isDigit(sign)) {
                int posts = 10 * (sign - '0') + 5;
                if (posts <= 60) {
                    check.fine(text, posts);
                } else {
                    check.faulty(text, 4, 5);
                }
            } else if (sign == 32 || sign == 10) {
                check.fine(text, 5);
            } else {
                check.faulty(text, SIGNS.indexOf(sign) >= 0 ? 2 : 1, 5);
            }
        }
    }

    private static void longestTokens() {
        check.fine("rhyme zzzzzzzz;", 1);
        check.faulty("rhyme zzzzzzzzz;", 1, 6);
        check.faulty("rhyme a zzzzzzzzz b;", 1, 8);
        check.fine("person zzzzzzzz worth 1;", 1);
        check.faulty("person zzzzzzzzz worth 1;", 1, 7);
        check.faulty("standstan 5;", 1, 0);
        check.faulty("standsta 5;", 2, 0);
        check.faulty("z".repeat(1200), 1, 0);
        check.fine("stand 0060;", 60);
        check.faulty("stand 00060;", 1, 6);
        check.fine("count 9999;", 1);
        check.faulty("count 10000;", 1, 6);
        check.faulty("count 1+00000;", 1, 8);
        // 4294967301 is 5 by an int that wraps.
        check.faulty("stand 4294967301;", 1, 6);
        check.faulty("1".repeat(1200), 1, 0);
        check.faulty("stand 5a", 1, 6);
        check.faulty("stand 0005a;", 1, 6);
        check.faulty("count here-1last;", 1, 11);
        check.faulty("guard 1to 2;", 1, 6);
        check.fine("guard 1 to2;", 1);
        check.faulty("drawn 1weight 2;", 1, 6);
        check.fine("drawn1 weight2;", 1);
        check.faulty("count 1and 2;", 1, 6);
        check.fine("count 1 and(2)or(3);", 1);
    }

    private static void blanksPartThemOrNot() {
        check.fine(" \n stand \n 6 \n ; \n begin\n2\n;\n", 6);
        check.fine("stand6;begin2;left3;turn4;again5;boy1;guard1 to2;rhyme a;person b worth3;drawn4 weight5;count(here)/2;", 6);
        check.fine("count ( 1 ) + ( here - 2 ) * last / going < 3 and not ( words = signs ) or 1 > 2 ;", 1);
        check.fine("count(1)+(here-2)*last/going<3and not(words=signs)or 1>2;".replace("3and", "3 and"), 1);
        check.faulty("stand 1 2;", 2, 8);
        check.faulty("sta nd 5;", 2, 0);
        check.faulty("stand\t5;", 1, 5);
        check.faulty("stand\r5;", 1, 5);
        check.faulty("Stand 5;", 1, 0);
        check.faulty("stand 5;" + (char) 160, 1, 8);
        check.fine("", 1);
        check.fine(" \n", 1);
    }

    private static void namesAndOwnWords() {
        for (String word : OWN_WORDS) {
            check.faulty("rhyme " + word + ";", 2, 6);
            check.faulty("rhyme a " + word + ";", 2, 8);
            check.faulty("person " + word + " worth 1;", 2, 7);
            check.fine("rhyme " + word + "s;", 1);
            check.fine("person " + word.substring(1) + " worth 1;", 1);
        }
        check.fine("person a worth 1;person b worth 1;rhyme a b a b;", 1);
        check.faulty("rhyme 5;", 2, 6);
        check.faulty("rhyme a 5;", 2, 8);
        check.faulty("person 5 worth 1;", 2, 7);
    }

    /** The least and the greatest of each number is told and does what it says. */
    private static void lastNumbersTakeEffect() {
        check.fine("stand 1;", 1);
        check.fine("stand 60;", 60);
        check.due("begin 0", firstHit("stand 60;begin 0;count 1;"), 0);
        check.due("begin 59", firstHit("stand 60;begin 59;count 1;"), 59);
        check.due("left 1", Long.bitCount(Check.ringOf("stand 60;left 1;").left()), 1);
        check.due("left 59", Long.bitCount(Check.ringOf("stand 60;left 59;").left()), 59);
        check.due("count 9999 is made 999", firstHit("stand 60;count 9999;"), 998 % 60);
        check.due("again 0", Check.ringOf("stand 2;again 0;count 1;").go(1000), 1);
        check.due("again 9", Check.ringOf("stand 2;again 9;count 1;").go(1000), 19);
        check.due("boy 0", secondHit("stand 60;boy 0;count 1;begin 30;"), 0);
        check.due("boy 59", secondHit("stand 60;boy 59;count 1;begin 30;"), 59);
        PostRing turns = Check.ringOf("stand 9;turn 1;");
        turns.go(1);
        check.due("turn 1", turns.about(12), 1);
        PostRing rarely = Check.ringOf("stand 60;turn 99;again 9;");
        rarely.go(98);
        check.due("turn 99: not behind 98", rarely.about(12), 0);
        rarely.go(1);
        check.due("turn 99: behind 99", rarely.about(12), 1);
        rarely.go(98);
        check.due("turn 99: not behind 197", rarely.about(12), 1);
        rarely.go(1);
        check.due("turn 99: back behind 198", rarely.about(12), 0);
        check.due("guard 0 to 0", hitsToGo(60, 0, "guard 0 to 0;"), 2);
        check.due("guard 59 to 59", hitsToGo(60, 59, "guard 59 to 59;"), 2);
        check.due("guard 59 to 59 guards no other", hitsToGo(60, 58, "guard 59 to 59;"), 1);
        check.due("guard 0 to 58 guards no other", hitsToGo(60, 59, "guard 0 to 58;"), 1);
        check.due("guard 0 to 59", hitsToGo(60, 59, "guard 0 to 59;"), 2);
        PostRing worth = Check.ringOf("drawn 1 weight 1;person a worth 0;person b worth 999;");
        check.due("worth 0", worth.expected(1, 0, 0), 0);
        check.due("worth 999 of the second post", worth.expected(2, 1, 0), 0);
        check.due("worth 999", Check.ringOf("drawn 1 weight 1;person b worth 999;").expected(1, 0, 0), 999);
        PostRing drawn = Check.ringOf("drawn 1 weight 1;drawn 999 weight 99;");
        check.due("drawn 1", drawn.chance(60, 59, 0) * 1000 + drawn.chance(60, 59, 1), 1100);
        int last = Model.plain(60, 999).get(59);
        check.due("drawn 999 weight 99", drawn.chance(60, last, 0) * 1000 + drawn.chance(60, last, 1), 99100);
    }

    private static int firstHit(String text) {
        PostRing ring = Check.ringOf(text);
        ring.go(1);
        return ring.about(10);
    }

    private static int secondHit(String text) {
        PostRing ring = Check.ringOf(text);
        ring.go(2);
        return ring.about(11);
    }

    /** How often one at a post of so many is hit till that one goes: the boy comes to nobody else. */
    private static int hitsToGo(int posts, int post, String lines) {
        PostRing ring = Check.ringOf("stand " + posts + ";begin " + post + ";count (going=1)+(going>1)*here;" + lines);
        for (int i = 0; i < 20 && ring.post(post, 0) == 1; i++) {
            ring.go(1);
        }
        return ring.post(post, 0) == 1 ? -1 : ring.post(post, 1);
    }

    private static void firstNumbersThatCantBe() {
        check.faulty("stand 0;", 4, 6);
        check.faulty("stand 61;", 4, 6);
        check.faulty("begin 60;", 4, 6);
        check.faulty("left 0;", 4, 5);
        check.faulty("left 60;", 4, 5);
        check.faulty("turn 0;", 4, 5);
        check.faulty("turn 100;", 4, 5);
        check.faulty("again 10;", 4, 6);
        check.faulty("boy 60;", 4, 4);
        check.faulty("guard 60 to 60;", 4, 6);
        check.faulty("guard 59 to 60;", 4, 12);
        check.faulty("guard 59 to 58;", 4, 12);
        check.faulty("guard 1 to 0;", 4, 11);
        check.fine("guard 59 to 59;", 1);
        check.faulty("person a worth 1000;", 4, 15);
        check.faulty("drawn 0 weight 1;", 4, 6);
        check.faulty("drawn 1000 weight 1;", 4, 6);
        check.faulty("drawn 1 weight 0;", 4, 15);
        check.faulty("drawn 1 weight 100;", 4, 15);
        for (String line : new String[] {"stand -1;", "begin -1;", "left -1;", "turn -1;", "again -1;", "boy -1;"}) {
            check.faulty(line, 2, line.indexOf('-'));
        }
    }

    private static void withoutLines() {
        // stand 1 has no goings, so each of the others is left out of a longer ring.
        PostRing ring = Check.ringOf("stand 9;");
        check.due("count 3 from 0", ring.go(1) * 10 + ring.about(10), 12);
        check.due("again 0", ring.went(0), 2);
        ring.go(1);
        check.due("no second boy", ring.about(10) * 10 - ring.about(11), 51);
        check.due("no turn", ring.go(1000) * 10 + ring.about(12), 60);
        check.due("left 1", ring.about(1), 1);
        PostRing rhymeless = Check.ringOf("stand 60;count 7+words*50+signs*30;");
        rhymeless.go(1);
        check.due("no rhyme: words and signs are 0", rhymeless.about(10), 6);
        check.due("no persons", ring.about(3), 0);
        check.due("none drawn", ring.about(4), 0);
    }

    private static void onceEach() {
        String[] lines = {"stand 5;", "begin 5;", "left 5;", "count 5;", "turn 5;", "again 5;", "boy 5;", "rhyme a;"};
        for (String line : lines) {
            check.fine(line + "guard 0 to 1;", line.startsWith("stand") ? 5 : 1);
            check.faulty(line + line, 2, line.length());
            String word = line.substring(0, line.indexOf(' '));
            check.faulty(line + word, 2, line.length());
            check.faulty(line + word + "$", 2, line.length());
            check.faulty(line + "\n " + word + " 9999;", 2, line.length() + 2);
        }
        StringBuilder all = new StringBuilder();
        for (String line : lines) {
            all.append(line);
        }
        check.fine(all.toString(), 5);
        for (String line : lines) {
            check.faulty(all + line, 2, all.length());
        }
        // What a ring has told is forgotten by the next one.
        PostRing ring = Check.ringOf(all.toString());
        Check.put(ring, all.toString());
        check.due("told once in each text", ring.ring(), 5);
    }

    private static String persons(int many) {
        StringBuilder text = new StringBuilder();
        for (int i = 0; i < many; i++) {
            text.append("person ").append((char) ('a' + i)).append(" worth ").append(i * 111).append(';');
        }
        return text.toString();
    }

    private static String drawn(int many) {
        StringBuilder text = new StringBuilder();
        for (int i = 0; i < many; i++) {
            text.append("drawn ").append(i + 1).append(" weight ").append(i + 1).append(';');
        }
        return text.toString();
    }

    private static void asManyAsMayBe() {
        String guards = "guard 0 to 0;guard 1 to 1;guard 2 to 2;guard 3 to 3;guard 4 to 4;guard 5 to 5;guard 6 to 6;guard 7 to 7;";
        check.fine(guards, 1);
        check.due("the eighth guard guards", hitsToGo(9, 7, guards), 2);
        check.faulty(guards + "guard 8 to 8;", 2, guards.length());
        check.faulty(guards + "guard", 2, guards.length());
        check.faulty(guards + "guard $", 2, guards.length());
        check.due("nine persons", Check.ringOf(persons(9)).about(3), 9);
        check.due("no person", Check.ringOf("").about(3), 0);
        check.faulty(persons(9) + "person j worth 1;", 2, persons(9).length());
        check.faulty(persons(9) + "person a worth 1;", 2, persons(9).length());
        check.faulty(persons(9) + "person", 2, persons(9).length());
        check.due("the ninth person's worth", Check.ringOf(persons(9) + "drawn 5 weight 1;").expected(9, 8, 1), 1);
        check.due("twelve drawn", Check.ringOf(drawn(12)).about(4), 12);
        check.faulty(drawn(12) + "drawn 13 weight 1;", 2, drawn(12).length());
        check.faulty(drawn(12) + "drawn 1 weight 1;", 2, drawn(12).length());
        check.faulty(drawn(12) + "drawn", 2, drawn(12).length());
        int twelfth = Model.plain(1, 12).get(0);
        check.due("all twelve weigh", Check.ringOf(drawn(12)).chance(1, twelfth, 0), 1);
        check.faulty(persons(8) + "person a worth 1;", 3, persons(8).length() + 7);
        check.faulty(persons(8) + "person h worth 1;", 3, persons(8).length() + 7);
        check.faulty(drawn(11) + "drawn 1 weight 1;", 3, drawn(11).length() + 6);
        check.faulty(drawn(11) + "drawn 0011 weight 1;", 3, drawn(11).length() + 6);
        check.fine("person a worth 1;person aa worth 1;person ab worth 1;person ba worth 1;person aaaaaaaa worth 1;", 1);
        check.fine("drawn 5 weight 5;drawn 6 weight 5;", 1);
    }

    private static void rhymeOf24() {
        String names = "abcdefgh ".repeat(24);
        PostRing ring = Check.ringOf("stand 60;count words*10+signs;rhyme " + names + ";");
        ring.go(1);
        check.due("24 names, alike ones too, of 192 letters", ring.about(10), (240 + 192 - 1) % 60);
        check.faulty("rhyme " + names + "x;", 2, 6 + names.length());
        check.faulty("rhyme " + names + "to;", 2, 6 + names.length());
        check.faulty("rhyme " + names + "$;", 1, 6 + names.length());
        check.faulty("rhyme " + names + "abcdefghi;", 1, 6 + names.length());
        check.faulty("rhyme " + names + "x" + " y".repeat(300), 2, 6 + names.length());
        check.faulty("rhyme;", 2, 5);
        check.due("a name of one letter", firstHit("stand 60;count words*10+signs;rhyme a;"), 10);
    }

    private static void unitsOf40() {
        String forty = "count 1" + "+1".repeat(39);
        check.due("40 units", Check.ringOf(forty + ";").about(9), 40);
        check.due("all are counted", firstHit("stand 60;" + forty + ";"), 39);
        check.faulty(forty + "+1;", 2, forty.length() + 1);
        check.faulty(forty + " or going", 2, forty.length() + 4);
        check.faulty(forty + "*(1);", 2, forty.length() + 1);
        check.faulty(forty + " and not 1;", 2, forty.length() + 9);
        check.faulty(forty + "<$;", 1, forty.length() + 1);
        check.faulty(forty + "+;", 2, forty.length() + 1);
        check.faulty(forty, 2, forty.length());
        for (String joint : new String[] {"+", "-", "*", "/", " or ", " and "}) {
            String joined = "count 1" + (joint + "1").repeat(39);
            check.due("40 units joined by" + joint, Check.ringOf(joined + ";").about(9), 40);
            check.faulty(joined + joint + "1;", 2, joined.length() + joint.length());
            check.faulty(joined + joint + "(1);", 2, joined.length() + joint.length());
            check.faulty(joined + joint + "$", 1, joined.length() + joint.length());
        }
        String nested = "count " + "(1+".repeat(6) + "1" + ")".repeat(6) + "+1".repeat(27);
        check.due("6 units ( e ), 6 ones in them, 1 within, 27 behind", Check.ringOf(nested + ";").about(9), 40);
        check.faulty(nested + "+1;", 2, nested.length() + 1);
        check.faulty("count " + "1".repeat(4) + "+1".repeat(38) + "+(1);", 2, 6 + 4 + 76 + 2);
        check.due("( e ) as the 39th", Check.ringOf("count 1" + "+1".repeat(37) + "+(1);").about(9), 40);
        check.due("one unit", Check.ringOf("count 1;").about(9), 1);
        // Each unit may have 7 nots ahead; within 1,200 bytes there is room for 34 such.
        check.due("many nots", Check.ringOf("count " + "not not not not not not not 1 or ".repeat(34) + "1;").about(9), 35);
        String zeros = "stand 60;count (" + "not not not not not not 0 or ".repeat(35);
        check.due("six nots of 0 each", firstHit(zeros + "0)*9+2;"), 1);
        check.due("the last one tells", firstHit(zeros + "not 0)*9+2;"), 10);
    }

    private static void withinSixOthers() {
        for (int brackets = 0; brackets <= 7; brackets++) {
            String open = "count " + "(".repeat(brackets);
            String close = ")".repeat(brackets) + ";";
            String nots = "not ".repeat(7 - brackets);
            check.fine(open + nots + "1" + close, 1);
            check.faulty(open + nots + "not 1" + close, 2, open.length() + nots.length());
            check.faulty(open + nots + "(1)" + close, 2, open.length() + nots.length());
            check.fine(open + nots + "1 and 1 or 1+1*1<1" + close, 1);
            // Those that are closed already are no others to what comes behind them.
            check.fine(open + nots + "1" + close.replace(";", " or ") + open.substring(6) + nots + "1" + close, 1);
        }
        check.fine("count not not not not not not not 1 and not not not not not not not 1;", 1);
        check.faulty("count not not not not not not not 1 and not not not not not not not not 1;", 2, 6 + 34 + 28);
        check.faulty("count " + "(".repeat(8), 2, 13);
        check.faulty("count " + "not ".repeat(8), 2, 34);
        check.faulty("count (((((((1+(1))))))));", 2, 15);
        check.fine("count (((((((1+1)))))))+(1);", 1);
        check.faulty("count " + "(".repeat(7) + "$", 1, 13);
        check.faulty("count " + "(".repeat(7) + "1" + ")".repeat(8) + ";", 2, 21);
        check.faulty("count " + "(".repeat(7) + "1" + ")".repeat(6) + ";", 2, 20);
    }

    private static void postsBeyondThePosts() {
        for (int posts : new int[] {1, 2, 7, 59, 60}) {
            for (int told : new int[] {0, posts - 1, Math.min(59, posts), Math.min(59, posts + 1), 59}) {
                // Of one post none goes.
                int want = posts == 1 ? -1 : told % posts;
                check.due("begin " + told + " of " + posts, firstHit("begin " + told + ";stand " + posts + ";count 1;"), want);
                check.due("begin behind stand", firstHit("stand " + posts + ";begin " + told + ";count 1;"), want);
                int other = posts < 3 ? -1 : told % posts;
                check.due("boy " + told + " of " + posts,
                    secondHit("boy " + told + ";stand " + posts + ";count 1;begin " + (told + 1) % posts + ";"), other);
            }
        }
        check.due("a guard from within to beyond", hitsToGo(5, 3, "guard 3 to 59;"), 2);
        check.due("a guard from within to beyond", hitsToGo(5, 4, "guard 3 to 59;"), 2);
        check.due("a guard from within to beyond", hitsToGo(5, 2, "guard 3 to 59;"), 1);
        check.due("a guard beyond guards none", hitsToGo(5, 4, "guard 5 to 59;"), 1);
        check.due("a guard beyond is not taken modulo the posts", hitsToGo(5, 0, "guard 5 to 5;"), 1);
        check.due("guarded by two guards", hitsToGo(5, 2, "guard 0 to 3;guard 2 to 4;"), 2);
        check.due("again 9", hitsToGo(5, 1, "again 9;guard 0 to 0;"), 10);
        check.due("guarded, again 9", hitsToGo(5, 0, "again 9;guard 0 to 0;"), 11);
    }

    private static void firstFaultByPlace() {
        check.faulty("stand 61;$", 4, 6);
        check.faulty("$stand 61;", 1, 0);
        check.faulty("x stand 61;$", 2, 0);
        check.faulty("person a worth 1;person a worth 1000;", 3, 24);
        check.faulty("person a worth 1000;person a worth 1;", 4, 15);
        check.faulty("drawn 5 weight 100;drawn 5 weight 1;", 4, 15);
        check.faulty("drawn 5 weight 1;drawn 5 weight 100;", 3, 23);
        check.faulty("drawn 5 weight 1;drawn 5 $", 3, 23);
        check.faulty("drawn 5 weight 1;drawn $", 1, 23);
        check.faulty("guard 60 to 61;", 4, 6);
        check.faulty("guard 60 $", 4, 6);
        check.faulty("guard 6 60;", 2, 8);
        check.faulty("stand 60 $", 1, 9);
        check.faulty("begin 60", 4, 6);
        check.faulty("stand 5;stand 61;", 2, 8);
        check.faulty("person a worth 1;person a", 3, 24);
        check.faulty("person a worth 1;person aaaaaaaaa", 1, 24);
        // A line with a fault has told nothing that a later one could be judged by.
        check.faulty("person a worth;person a worth 1;", 2, 14);
    }

    private static void leastFaultAtOnePlace() {
        check.faulty("stand 10000;", 1, 6);
        check.faulty("begin 61a;", 1, 6);
        check.faulty("stand 5 61;", 2, 8);
        check.faulty("drawn 5 weight 1;drawn 00005 weight 1;", 1, 23);
        check.faulty("drawn 5 weight 1;drawn 5a weight 1;", 1, 23);
        check.faulty("rhyme 9999;", 2, 6);
        check.faulty("count 1 9999;", 2, 8);
        check.faulty("stand 5;;", 2, 8);
        check.faulty("stand 5;abcdefghi", 1, 8);
        check.faulty("count (1$", 1, 8);
    }

    private static void faultsAtTheEnd() {
        String whole = "guard 1 to 2;person a worth 3;drawn 4 weight 5;rhyme a b;count not (1+2)<3;";
        // Cut anywhere, it is a ring behind a ; alone, or there is a fault at the cut or at a word cut short.
        for (int cut = 0; cut <= whole.length(); cut++) {
            String text = whole.substring(0, cut);
            int lineEnd = text.lastIndexOf(';') + 1;
            if (lineEnd == cut) {
                check.fine(text, 1);
            } else {
                PostRing ring = new PostRing();
                Check.put(ring, text);
                check.due("ring() of '" + text + "'", ring.ring(), -1);
                check.due("fault(0) of '" + text + "'", ring.fault(0), 2);
                int wordStart = Math.max(text.lastIndexOf(' '), text.lastIndexOf(';')) + 1;
                int place = ring.fault(1);
                check.due("fault(1) of '" + text + "'", place == cut || place == wordStart, true);
            }
        }
        check.faulty("stand", 2, 5);
        check.faulty("stand ", 2, 6);
        check.faulty("stand 5", 2, 7);
        check.faulty("stand 5 \n \n", 2, 11);
        check.faulty("count 1+", 2, 8);
        check.faulty("count not", 2, 9);
        check.faulty("rhyme a", 2, 7);
        check.faulty("rhyme", 2, 5);
        check.faulty("person a worth", 2, 14);
    }

    private static void textOf1200() {
        String blanks = " ".repeat(1192);
        check.fine(blanks + "stand 9;", 9);
        check.fine("stand 9;" + blanks, 9);
        check.faulty(" ".repeat(1193) + "stand 9", 2, 1200);
        check.faulty(" ".repeat(1199) + "$", 1, 1199);
        check.faulty(" ".repeat(1199) + "x", 2, 1199);
        check.faulty(" ".repeat(1196) + "5to;", 1, 1196);
        check.faulty("stand 9;" + " ".repeat(1187) + "begin", 2, 1200);
    }

    private static void promise1() {
        PostRing fresh = new PostRing();
        PostRing told = new PostRing();
        check.due("ring() of nothing", told.ring(), 1);
        check.same("a new object is a ring of one post", Observed.all(fresh), Observed.all(told));
        check.same("without fault", Observed.asked(new PostRing()), Observed.asked(Check.ringOf("stand 1;")));
        PostRing ring = new PostRing();
        check.due("posts", ring.about(0), 1);
        check.due("one stands", ring.about(1), 1);
        check.due("post 0", ring.post(0, 0), 1);
        check.due("no post 1", ring.post(1, 0), -1);
        check.due("no fault yet", ring.fault(0) * 10 + ring.fault(1), -1);
        check.due("the constant", PostRing.NONE, -1);
    }

    private static void promise2() {
        PostRing ring = new PostRing();
        for (int i = 1; i <= 59; i++) {
            check.due("how many there are", ring.feed(0x20202020, 0x20202020, 0x20202020, 0x20202020, 0x20202020), 20 * i);
        }
        check.due("end(1180)", ring.end(1180), 1180);
        check.due("1,200", ring.feed(0x20202020, 0x20202020, 0x20202020, 0x7374616e, 0x6420373b), 1200);
        check.due("more than 1,200", ring.feed(0x24242424, 0x24242424, 0x24242424, 0x24242424, 0x24242424), -1);
        check.due("nothing comes", ring.about(7), 1200);
        check.due("nothing has changed", ring.ring(), 7);
        // 1,181 there are, so 19 would fit.
        PostRing odd = new PostRing();
        Check.put(odd, "stand 4;" + " ".repeat(1173));
        check.due("1,201 would be too many", odd.feed(0x24242424, 0x24242424, 0x24242424, 0x24242424, 0x24242424), -1);
        check.due("nothing comes", odd.about(7), 1181);
        check.due("end(1180)", odd.end(1180), 1180);
        check.due("1,200 fit", odd.feed(0x20202020, 0x20202020, 0x20202020, 0x20202020, 0x20202020), 1200);
        check.due("all of it is the ring", odd.ring(), 4);
        PostRing behind = new PostRing();
        // "stand 3" and twelve bytes that are cut off; then "1;left 2;" and blanks.
        check.due("feed", behind.feed(0x7374616e, 0x64203324, 0x24242424, 0x24242424, 0x24242424), 20);
        check.due("end", behind.end(7), 7);
        check.due("behind those on the tape", behind.feed(0x313b6c65, 0x66742032, 0x3b202020, 0x20202020, 0x0a0a0a0a), 27);
        check.due("stand 31;", behind.ring(), 31);
        check.due("left 2;", Long.bitCount(behind.left()), 2);
        // The highest byte of each of the five numbers comes first.
        for (int number = 0; number < 5; number++) {
            for (int at = 0; at < 4; at++) {
                int[] fed = {0x20202020, 0x20202020, 0x20202020, 0x20202020, 0x20202020};
                fed[number] = fed[number] & ~(255 << 24 - 8 * at) | 0xff << 24 - 8 * at;
                PostRing one = new PostRing();
                one.feed(fed[0], fed[1], fed[2], fed[3], fed[4]);
                check.due("ring()", one.ring(), -1);
                check.due("byte " + at + " of number " + number, one.fault(1), 4 * number + at);
            }
        }
    }

    private static void promise3() {
        PostRing ring = new PostRing();
        check.due("of an empty tape", ring.end(0), 0);
        check.due("it has not so many", ring.end(1), -1);
        check.due("below 0", ring.end(-1), -1);
        Check.put(ring, "stand 12;");
        check.due("all it has", ring.end(9), 9);
        check.due("one more than it has", ring.end(10), -1);
        check.due("below 0", ring.end(-1), -1);
        check.due("least", ring.end(Integer.MIN_VALUE), -1);
        check.due("greatest", ring.end(Integer.MAX_VALUE), -1);
        check.due("doing nothing", ring.about(7), 9);
        check.due("the first 8", ring.end(8), 8);
        check.due("what was cut is gone", ring.end(9), -1);
        check.due("stand 12 without its end", ring.ring(), -1);
        check.due("at the end", ring.fault(1), 8);
        Check.put(ring, "stand 12;");
        check.due("refused", ring.end(10) + ring.end(-1), -2);
        check.due("the text is whole", ring.ring(), 12);
        // What was cut off is not looked at: neither a letter behind an N, nor more of a word, of an N.
        cutTo("stand 5a;", 7, 2, 7);
        cutTo("stand 512;", 8, 2, 8);
        cutTo("standing 5;", 5, 2, 5);
        cutTo("stand 5;$", 8, 0, -1);
        cutTo("rhyme abcdefghi;", 14, 2, 14);
        cutTo("stand 61;", 7, 2, 7);
        Check.put(ring, " ".repeat(1200));
        check.due("end(1201)", ring.end(1201), -1);
        check.due("end(1200)", ring.end(1200), 1200);
        check.due("end(0)", ring.end(0), 0);
        check.due("about(7)", ring.about(7), 0);
    }

    private static void cutTo(String text, int n, int fault, int place) {
        PostRing ring = new PostRing();
        Check.put(ring, text);
        check.due("end(" + n + ") of '" + text + "'", ring.end(n), n);
        check.due("ring() of '" + text + "' cut", ring.ring() == -1, fault != 0);
        check.due("fault(0) of '" + text + "' cut", ring.fault(0), fault);
        check.due("fault(1) of '" + text + "' cut", ring.fault(1), place);
    }

    private static PostRing busy() {
        PostRing ring = Check.ringOf("stand 9;left 2;begin 4;count 2+last;turn 2;again 1;boy 7;guard 1 to 2;rhyme a bb;"
            + "person p worth 5;drawn 3 weight 4;");
        ring.later(5);
        ring.go(6);
        ring.image(0);
        ring.go(1);
        ring.image(2);
        ring.order(3);
        ring.order(2);
        ring.sight(5, 1, 2);
        ring.later(1);
        ring.untell(0);
        return ring;
    }

    private static void promise4() {
        String[] faults = {"$", "stand 5;x", "stand 5;stand 5;", "stand 61;", "person a worth 1;person a worth 1;",
            "stand 3;left 1;begin 1;count 1;turn 1;again 0;boy 0;guard 0 to 9;rhyme c;person z worth 1;drawn 1 weight 1;$"};
        for (String text : faults) {
            PostRing ring = busy();
            Check.put(ring, text);
            check.due("ring() of '" + text + "'", ring.ring(), -1);
            check.due("the tape is empty", ring.about(7), 0);
            // ring() of a fault, and no ring() at all, differ by fault(..) alone.
            check.same("all stays behind '" + text + "'", Observed.asked(ring) + Observed.boxes(ring),
                Observed.asked(busy()) + Observed.boxes(busy()));
        }
        PostRing ring = busy();
        check.due("ring() of an empty tape", ring.ring(), 1);
        check.due("the time stays", ring.about(6), 6);
        for (int what : new int[] {2, 3, 4, 5, 7, 8, 9, 12}) {
            check.due("about " + what, ring.about(what), 0);
        }
        check.due("the first boy has been nowhere", ring.about(10), -1);
        check.due("the second boy has been nowhere", ring.about(11), -1);
        check.due("boxes are empty", ring.back(0) + ring.back(1) + ring.back(2), -3);
        check.due("no sight to untell", ring.untell(0), false);
        check.due("numbered from 0 again", ring.sight(5, 1, 2), 0);
        PostRing again = busy();
        String text = "stand 60;left 59;";
        Check.put(again, text);
        check.due("how many posts", again.ring(), 60);
        check.due("the tape is empty", again.about(7), 0);
        check.due("no goings", again.about(2), 0);
        check.due("all stand", again.about(1), 60);
        check.due("none was hit", again.post(3, 1), 0);
        check.due("none went", again.went(0), -1);
        check.due("one goes: left 59", again.go(1000), 1);
        // The same text twice: the second ring begins anew.
        PostRing twice = Check.ringOf("stand 5;");
        twice.go(3);
        Check.put(twice, "stand 5;");
        check.due("ring()", twice.ring(), 5);
        check.due("no goings", twice.about(2), 0);
        check.due("post 2 stands again", twice.post(2, 0), 1);
    }

    /** Of what an earlier text told nothing is left, however many came between, and whether they had a fault. */
    private static void ringsBehindOneAnother() {
        String full = "begin 3;left 2;count not 1;turn 1;again 2;boy 4;guard 0 to 8;rhyme a bb;person p worth 5;person q worth 6;"
            + "drawn 3 weight 4;drawn 4 weight 5;stand 9;";
        String[] bare = {"stand 9;", "stand 9;count words*3+signs+2;", "stand 9;person q worth 1;drawn 4 weight 1;",
            "stand 9;person q worth 1;drawn 5 weight 1;", "stand 9;guard 1 to 1;"};
        for (String text : bare) {
            String want = Observed.asked(Check.ringOf(text));
            for (int between = 0; between < 4; between++) {
                for (String other : new String[] {"stand 2;", full + "$"}) {
                    PostRing ring = Check.ringOf(full);
                    for (int i = 0; i < between; i++) {
                        Check.put(ring, other);
                        ring.ring();
                    }
                    Check.put(ring, text);
                    check.due("ring() of '" + text + "'", ring.ring(), 9);
                    check.same("'" + text + "' behind " + between + " others", Observed.asked(ring), want);
                }
            }
        }
        PostRing again = new PostRing();
        for (int i = 0; i < 4; i++) {
            Check.put(again, full);
            check.due("the same text once more", again.ring(), 9);
            check.due("its persons and drawn ones", again.about(3) * 10 + again.about(4), 22);
        }
        for (int i = 0; i < 4; i++) {
            Check.put(again, "guard 1 to 2;".repeat(8) + "rhyme " + "a ".repeat(24) + ";count 1" + "+1".repeat(39) + ";");
            check.due("as much as may be, once more", again.ring(), 1);
            check.due("of 40 units", again.about(9), 40);
        }
    }

    private static void promise5() {
        PostRing ring = new PostRing();
        check.due("no ring() yet", ring.fault(0), 0);
        check.due("no place", ring.fault(1), -1);
        for (int what : new int[] {-1, 2, Integer.MIN_VALUE, Integer.MAX_VALUE}) {
            check.due("another what", ring.fault(what), -1);
        }
        Check.put(ring, "stand 61;");
        check.due("not before ring()", ring.fault(0), 0);
        ring.ring();
        check.due("its fault", ring.fault(0), 4);
        check.due("its place", ring.fault(1), 6);
        check.due("another what", ring.fault(2), -1);
        Check.put(ring, "$");
        ring.end(1);
        ring.go(1);
        check.due("of the latest ring()", ring.fault(0) * 100 + ring.fault(1), 406);
        ring.ring();
        check.due("of the latest ring()", ring.fault(0) * 100 + ring.fault(1), 100);
        ring.ring();
        check.due("none", ring.fault(0), 0);
        check.due("no place", ring.fault(1), -1);
    }
}

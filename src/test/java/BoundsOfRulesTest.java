/** The boundary cases of promises 20 to 24 and 27 to 29: a test for each sentence that names one. */
public final class BoundsOfRulesTest {
    private static final int LEAST = Integer.MIN_VALUE;
    private static final int MOST = Integer.MAX_VALUE;
    /** CLOSED for ever: each RULE makes the next one longer. */
    private static final String ENDLESS = "letters 2;weigh b 2;rule bb>baa;";
    /** CLOSED by nine RULES more, all of whose OVERLAPS CLOSE then. */
    private static final String LONG = "letters 3;weigh b 5;weigh c 7;rule cbbc>;";

    public static void main(String[] args) {
        shifts();
        shiftsOfLikeLefts();
        lettersAlikeWhereBothLie();
        overlapWordsOfSixteen();
        overlapsWhoseStepsGrow();
        manyOverlaps();
        overlapsInOrder();
        overlapMissing();
        overlapsClose();
        overlapsCloseBySixty();
        fallsByWeightAndOrder();
        fallsMissing();
        closeOneToTen();
        closeNTimesAtMost();
        closeUntilAllClose();
        closeUntilTwelve();
        closeNothing();
        closeAnEmptyRight();
        closeTheLeastOne();
        closeBySixty();
        closeCantBe();
        tidyNothing();
        tidyLikeLefts();
        tidyInside();
        tidyRights();
        tidyBySixty();
        tidyDerivations();
        tidyTwelve();
        tidyCantBe();
        constants();
        heads();
        headsOfSixteen();
        headMissing();
        freeZeroToEight();
        freeOfLongLefts();
        freeRefused();
        kin();
        kinMissing();
        Check.promisesFrom(20, 24);
        Check.promisesFrom(27, 29);
        Check.end("BoundsOfRulesTest");
    }

    /** i.j.s, of each OVERLAP, and how many LETTERS its WORD has. */
    private static String overlapsOf(RewrittenWords x) {
        StringBuilder row = new StringBuilder();
        for (int k = 0; k < x.count(4); k++) {
            row.append(x.overlap(k, 0)).append('.').append(x.overlap(k, 1)).append('.').append(x.overlap(k, 2));
            row.append('=').append(x.overlap(k, 3)).append(' ');
        }
        return row.toString();
    }

    private static void overlaps(String system, String want) {
        Check.due("overlaps of " + system, want, overlapsOf(Check.with(system)));
    }

    private static void shifts() {
        Check.promise(20, "s 1 to less than the length of LEFT of i; also 0, if i is below j");
        overlaps("letters 1;rule a>;", "");
        overlaps("letters 1;rule aa>;", "0.0.1=3 ");
        overlaps("letters 1;rule aaaa>;", "0.0.1=5 0.0.2=6 0.0.3=7 ");
        overlaps("letters 2;rule ab>;rule ba>;", "0.1.1=3 1.0.1=3 ");
        overlaps("letters 2;rule ab>;rule b>;", "0.1.1=2 ");
        overlaps("letters 2;rule b>;rule ab>;", "1.0.1=2 ");
        overlaps("letters 2;rule ab>;rule a>;", "0.1.0=2 ");
        overlaps("letters 2;rule a>;rule ab>;", "0.1.0=2 ");
        overlaps("letters 2;rule a>;rule b>;", "");
    }

    private static void shiftsOfLikeLefts() {
        Check.promise(20, "also 0, if i is below j");
        overlaps("letters 1;rule a>;rule a>;", "0.1.0=1 ");
        overlaps("letters 1;rule a>;rule a>aa;rule a>;", "0.1.0=1 0.2.0=1 1.2.0=1 ");
        overlaps("letters 1;rule aa>;rule aa>a;", "0.0.1=3 0.1.0=2 0.1.1=3 1.0.1=3 1.1.1=3 ");
    }

    private static void lettersAlikeWhereBothLie() {
        Check.promise(20, "LETTERS alike where both lie; its WORD is both together");
        // inside, at the end of it, beyond it, with one letter that isn't alike
        overlaps("letters 3;rule abca>;rule bc>;", "0.0.3=7 0.1.1=4 ");
        overlaps("letters 3;rule abca>;rule ca>;", "0.0.3=7 0.1.2=4 1.0.1=5 ");
        overlaps("letters 3;rule abca>;rule cab>;", "0.0.3=7 0.1.2=5 1.0.1=5 ");
        overlaps("letters 3;rule abca>;rule cb>;", "0.0.3=7 ");
        overlaps("letters 3;rule abc>;rule bb>;", "1.1.1=3 ");
    }

    private static void overlapWordsOfSixteen() {
        Check.promise(20, "its WORD is both together, of 16 LETTERS at most");
        RewrittenWords x = Check.with(LONG);
        Check.due("nine come", 9, x.close(10));
        Check.due("14 letters", "bbcbcbcbcbcbcc>cbcbcbcbcb", Check.rule(x, 8));
        Check.due("16 letters", "bbcbcbcbcbcbcbcc>cbcbcbcbcbcb", Check.rule(x, 9));
        Check.due("3 letters", "cbb>bbc", Check.rule(x, 1));
        Check.due("4 letters", "cbbc>", Check.rule(x, 0));
        // cbb at 13 of rule 8: 16; cbbc there, or rule 8 at 3 of cbbc: 17
        String of8 = "";
        int longest = 0;
        for (int k = 0; k < x.count(4); k++) {
            int overlap = k;
            longest = Math.max(longest, x.overlap(overlap, 3));
            if (x.overlap(overlap, 0) == 8) {
                of8 += x.overlap(overlap, 1) + "." + x.overlap(overlap, 2) + "=" + x.overlap(overlap, 3) + " ";
            }
        }
        Check.due("16 at most", 16, longest);
        Check.due("of rule 8: cbb at 13, ccb at 12 and 13", "1.13=16 4.12=15 4.13=16 ", of8);
        Check.due("all of them", 53, x.count(4));
    }

    private static void overlapsWhoseStepsGrow() {
        Check.promise(20, "both are STEPS of it, by i at 0, by j at s");
        RewrittenWords x = Check.with(ENDLESS);
        x.close(10);
        Check.due("it makes one more", "baaaaaaaaaaaab>baaaaaaaaaaaaaa", Check.rule(x, 6));
        Check.due("16 letters that begin with it", "baaaaaaaaaaaabaa>baaaaaaaaaaaaaab", Check.rule(x, 7));
        for (int k = 0; k < x.count(4); k++) {
            int overlap = k;
            Check.due("rule 6 makes 17 of rule 7's left", false,
                    () -> x.overlap(overlap, 0) == 6 && x.overlap(overlap, 1) == 7);
        }
        RewrittenWords y = Check.with("letters 2;weigh b 3;rule bab>aaba;");
        Check.due("nine come", 9, y.close(10));
        Check.due("rule 1", "baaaba>aabaab", Check.rule(y, 1));
        Check.due("rule 7 makes one more", "aabaabaabaaabb>baaaaabbaaaaaba", Check.rule(y, 7));
        // rule 7 from 2 on: 16 letters, of which it would make 17
        Check.due("overlaps", laidByHand(y), y.count(4));
        for (int k = 0; k < y.count(4); k++) {
            int overlap = k;
            Check.due("rule 7 makes 17 of both together", false,
                    () -> y.overlap(overlap, 0) == 1 && y.overlap(overlap, 1) == 7);
        }
    }

    private static void manyOverlaps() {
        Check.promise(20, "OVERLAPS of 12 RULES");
        RewrittenWords x = Check.with("letters 1;rule aaaa>;rule aaaa>a;rule aaaa>;rule aaaa>;rule aaaa>;rule aaaa>;");
        // three of each with itself and with each ahead, four with each behind
        Check.due("of six like lefts", 6 * 3 + 15 * 3 + 15 * 4, x.count(4));
        Check.due("the last one: i", 5, x.overlap(122, 0));
        Check.due("the last one: s", 3, x.overlap(122, 2));
        Check.missing("behind it", () -> x.overlap(123, 0));
        RewrittenWords y = Check.with("letters 3;weigh b 7;weigh c 7;rule cbb>aa;rule ccc>cbc;rule baa>a;");
        Check.due("nine come", 9, y.close(10));
        int many = laidByHand(y);
        Check.due("of twelve rules", many, y.count(4));
        Check.due("they are many", true, many > 300);
        Check.due("the last one: i", 11, y.overlap(many - 1, 0));
        Check.missing("behind it", () -> y.overlap(many, 0));
    }

    /** How many OVERLAPS there are, by LEFTS laid upon one another as texts. */
    private static int laidByHand(RewrittenWords x) {
        int rules = x.count(1);
        String[][] sides = new String[rules][];
        for (int rule = 0; rule < rules; rule++) {
            sides[rule] = Check.rule(x, rule).split(">", -1);
        }
        int found = 0;
        for (int i = 0; i < rules; i++) {
            for (int j = 0; j < rules; j++) {
                for (int s = i < j ? 0 : 1; s < sides[i][0].length(); s++) {
                    found += isOverlap(sides[i], sides[j], s) ? 1 : 0;
                }
            }
        }
        return found;
    }

    private static boolean isOverlap(String[] first, String[] second, int s) {
        String rest = first[0].substring(s);
        if (!rest.startsWith(second[0]) && !second[0].startsWith(rest)) {
            return false;
        }
        int both = Math.max(first[0].length(), s + second[0].length());
        return both <= 16 && both - first[0].length() + first[1].length() <= 16
                && both - second[0].length() + second[1].length() <= 16;
    }

    private static void overlapsInOrder() {
        Check.promise(20, "OVERLAPS are numbered by i, then j, then s");
        overlaps("letters 1;rule aaa>;rule aa>;",
                "0.0.1=4 0.0.2=5 0.1.0=3 0.1.1=3 0.1.2=4 1.0.1=4 1.1.1=3 ");
    }

    private static void overlapMissing() {
        Check.promise(20, "NoSuchElementException: there is none such, another what");
        RewrittenWords x = Check.with("letters 2;rule aa>b;rule ba>;");
        // aaa, baa
        Check.due("the last one", 1, x.overlap(1, 0));
        int[] none = {2, 3, -1, LEAST, MOST};
        int[] wrong = {-1, 5, LEAST, MOST};
        for (int k : none) {
            for (int what = 0; what <= 4; what++) {
                int of = what;
                Check.missing("overlap " + k, () -> x.overlap(k, of));
            }
        }
        for (int what : wrong) {
            Check.missing("what " + what, () -> x.overlap(0, what));
            Check.changesNothingMissing("what " + what, Scenes::full, y -> y.overlap(0, what));
        }
        Check.missing("none at all", () -> Check.with("letters 2;rule a>b;").overlap(0, 0));
        Check.missing("no rules", () -> new RewrittenWords().overlap(0, 4));
    }

    private static void overlapsClose() {
        Check.promise(20, "It CLOSES, if RUNS by WAY 0 from what both STEPS make come to one WORD");
        Check.due("at once", 1, Check.with("letters 2;rule a>b;rule a>b;").overlap(0, 4));
        Check.due("by one step", 1, Check.with("letters 3;rule a>b;rule a>c;rule c>b;").overlap(0, 4));
        Check.due("not", 0, Check.with("letters 3;rule a>b;rule a>c;").overlap(0, 4));
        Check.due("both empty", 1, Check.with("letters 2;rule ab>;rule ba>;rule a>;rule b>;").overlap(0, 4));
        RewrittenWords x = Check.with("letters 3;rule a>b;rule a>c;rule b>c;rule c>b;");
        Check.due("runs that go round end in two words", 0, x.overlap(0, 4));
        Check.due("count of those that don't", 1, x.count(5));
        // aba comes to ca by way 0, to a by the other ways
        x = Check.with("letters 4;rule ab>c;rule ba>;rule d>aba;rule d>ca;rule d>a;");
        int closed = 0;
        for (int k = 0; k < x.count(4); k++) {
            int overlap = k;
            if (x.overlap(overlap, 0) == 2) {
                closed = 2 * closed + x.overlap(overlap, 4);
            }
        }
        Check.due("by way 0: aba and ca, not aba and a", 2, closed);
    }

    /** What is there behind so many STEPS at most, each the first one, as texts. */
    private static String stepped(String[] rules, String word, int most) {
        String now = word;
        for (int k = 0; k < most; k++) {
            String next = firstStep(rules, now);
            if (next.equals(now)) {
                return now;
            }
            now = next;
        }
        return now;
    }

    private static String firstStep(String[] rules, String word) {
        for (int where = 0; where < word.length(); where++) {
            for (String rule : rules) {
                String[] sides = rule.split(">", -1);
                String next = word.substring(0, where) + sides[1]
                        + (word.startsWith(sides[0], where) ? word.substring(where + sides[0].length()) : "");
                if (word.startsWith(sides[0], where) && next.length() <= 16) {
                    return next;
                }
            }
        }
        return word;
    }

    private static void overlapsCloseBySixty() {
        Check.promise(20, "RUNS by WAY 0 .. come to one WORD; 60 STEPS were made (2)");
        RewrittenWords x = Check.with("letters 5;rule ab>ba;rule a>bb;rule b>a;rule e>a;rule e>bb;");
        Check.tell(x, 0, "a");
        Check.tell(x, 1, "bb");
        Check.due("normal by just 60 steps", "0 60", x.run(0, 0, 0) + " " + x.run(0, 0, 1));
        Check.due("normal by 59 steps", "0 59", x.run(1, 0, 0) + " " + x.run(1, 0, 1));
        Check.due("both come to one word", 1, x.overlap(x.count(4) - 1, 4));
        RewrittenWords y = Check.with("letters 5;rule aa>b;rule d>b;rule bc>c;rule b>da;rule e>aada;rule e>bda;");
        Check.tell(y, 0, "aada");
        Check.tell(y, 1, "bda");
        Check.due("not yet normal", "2 60", y.run(0, 0, 0) + " " + y.run(0, 0, 1));
        Check.due("normal by 60 steps, from the next word", "0 60", y.run(1, 0, 0) + " " + y.run(1, 0, 1));
        Check.due("the last overlap: i", 4, y.overlap(y.count(4) - 1, 0));
        Check.due("one of both is not there yet", 0, y.overlap(y.count(4) - 1, 4));
    }

    private static void tidyBySixty() {
        Check.promise(23, "each RIGHT becomes the end of its RUN by WAY 0; 60 STEPS were made (2)");
        // ccdd comes to eight b's and eight a's, which change sides: 4 and 64 steps
        String[] rules = {"eeee>ccdd", "c>bbbb", "d>aaaa", "ba>ab"};
        StringBuilder text = new StringBuilder("letters 5;weigh e 9;weigh d 9;weigh c 9;weigh b 2;weigh a 2;");
        for (String rule : rules) {
            text.append("rule ").append(rule).append(';');
        }
        RewrittenWords x = Check.with(text.toString());
        Check.tell(x, 0, "ccdd");
        Check.due("more than 60 steps", "2 60", x.run(0, 0, 0) + " " + x.run(0, 0, 1));
        String there = stepped(rules, "ccdd", 60);
        Check.due("it would go on", false, there.equals(stepped(rules, "ccdd", 61)));
        Check.due("none goes", 0, x.tidy());
        Check.due("behind the 60th step", "eeee>" + there, Check.rule(x, 0));
        Check.due("tidied again", 0, x.tidy());
        Check.due("behind 8 steps more", "eeee>aaaaaaaabbbbbbbb", Check.rule(x, 0));
    }

    private static void closeBySixty() {
        Check.promise(22, "of both ends of these RUNS; 60 STEPS were made (2)");
        String[] rules = {"eeee>ccdd", "eeee>ddcc", "c>bbbb", "d>aaaa", "ba>ab"};
        StringBuilder text = new StringBuilder("letters 5;weigh e 9;weigh d 9;weigh c 9;weigh b 2;weigh a 2;");
        for (String rule : rules) {
            text.append("rule ").append(rule).append(';');
        }
        RewrittenWords x = Check.with(text.toString());
        Check.due("one comes", 1, x.close(1));
        // from ddcc it comes there by 4 steps, from ccdd it would by 68
        Check.due("it stops behind the 60th step", stepped(rules, "ccdd", 60) + ">aaaaaaaabbbbbbbb", Check.rule(x, 5));
    }

    private static void fallsByWeightAndOrder() {
        Check.promise(21, "A RULE FALLS, if LEFT is ABOVE RIGHT");
        String lines = "letters 2;weigh b 3;rule b>aa;rule b>aaa;rule b>aaaa;rule aaa>b;rule ab>ba;rule ba>ab;";
        boolean[] byA = {true, true, false, false, false, true};
        boolean[] byB = {true, false, false, true, true, false};
        RewrittenWords x = Check.with(lines);
        RewrittenWords y = Check.with(lines + "order ba;");
        for (int rule = 0; rule < 6; rule++) {
            Check.due("a ahead of b, rule " + rule, byA[rule], x.falls(rule));
            Check.due("b ahead of a, rule " + rule, byB[rule], y.falls(rule));
        }
        Check.due("an empty right", true, Check.with("letters 1;rule a>;").falls(0));
    }

    private static void fallsMissing() {
        Check.promise(21, "NoSuchElementException: no such RULE");
        int[] wrong = {-1, 3, 12, LEAST, MOST};
        for (int rule : wrong) {
            Check.changesNothingMissing("rule " + rule, Scenes::full, x -> x.falls(rule));
        }
        RewrittenWords x = twelve();
        Check.due("rule 11", true, x.falls(11));
        Check.missing("rule 12", () -> x.falls(12));
    }

    private static RewrittenWords twelve() {
        RewrittenWords x = Check.with(ENDLESS);
        Check.due("ten of eleven", 10, x.close(10));
        Check.due("the eleventh", 1, x.close(10));
        return x;
    }

    private static void closeOneToTen() {
        Check.promise(22, "IllegalArgumentException (ahead of that): n; to CLOSE by n (1 to 10)");
        int[] wrong = {0, 11, -1, -10, LEAST, MOST};
        for (int n : wrong) {
            Check.changesNothingRefused("close " + n, Scenes::withTwentyActs, x -> x.close(n));
            Check.changesNothingRefused("close " + n + ", which can't be", Scenes::withARise, x -> x.close(n));
        }
        for (int n = 1; n <= 10; n++) {
            RewrittenWords x = Check.with(ENDLESS);
            int by = n;
            Check.due("close " + n, n, x.close(by));
            Check.due("rules", n + 1, x.count(1));
            Check.due("an act", 1, x.count(2));
        }
    }

    private static void closeNTimesAtMost() {
        Check.promise(22, "again and again, n times at most");
        RewrittenWords x = Check.with("letters 3;rule ab>c;rule ba>;");
        Check.due("one", 1, x.close(1));
        Check.due("one more rule", "ab>c,ba>,ca>a/a1b1c1", Check.say(x));
        Check.due("one", 1, x.close(1));
        Check.due("one more rule", "ab>c,ba>,ca>a,bc>b/a1b1c1", Check.say(x));
        Check.due("one", 1, x.close(1));
        Check.due("one more rule", "ab>c,ba>,ca>a,bc>b,cc>c/a1b1c1", Check.say(x));
        Check.due("no more", 0, x.close(1));
        Check.due("four acts", 4, x.count(2));
        for (int k = 3; k >= 0; k--) {
            Check.due("undone", k, x.undo());
            Check.due("undone", 2 + Math.min(3, k), x.count(1));
        }
    }

    private static void closeUntilAllClose() {
        Check.promise(22, "until all CLOSE");
        for (int n = 3; n <= 10; n++) {
            RewrittenWords x = Check.with("letters 3;rule ab>c;rule ba>;");
            int by = n;
            Check.due("three are enough", 3, x.close(by));
            Check.due("all close", 0, x.count(5));
        }
        RewrittenWords x = Check.with("letters 3;rule ab>c;rule ba>;");
        Check.due("two are not", 2, x.close(2));
        Check.due("not all close", false, x.count(5) == 0);
    }

    private static void closeUntilTwelve() {
        Check.promise(22, "or there are 12 RULES");
        RewrittenWords x = Check.with(ENDLESS);
        Check.due("ten", 10, x.close(10));
        Check.due("eleven rules", 11, x.count(1));
        Check.due("not all close", false, x.count(5) == 0);
        Check.due("one till twelve", 1, x.close(10));
        Check.due("twelve rules", 12, x.count(1));
        Check.due("not all close", false, x.count(5) == 0);
        int bytes = x.say();
        String last = Check.rule(x, 11);
        Check.due("no more", 0, x.close(10));
        Check.due("no more", 0, x.close(1));
        Check.due("no more", bytes, x.say());
        Check.due("no more", last, Check.rule(x, 11));
        Check.due("acts all the same", 4, x.count(2));
        x.undo();
        x.undo();
        x.undo();
        Check.due("undone", 11, x.count(1));
        RewrittenWords y = Check.with("letters 2;rule abb>a;rule abba>aaa;rule bb>aa;rule baba>a;rule abb>ba;rule bbaa>;");
        Check.due("six were told, six come", 6, y.close(10));
        Check.due("twelve rules", 12, y.count(1));
        Check.due("not all close", false, y.count(5) == 0);
    }

    private static void closeNothing() {
        Check.promise(22, "An ACT: to CLOSE: how many RULES came");
        RewrittenWords x = Check.with("letters 2;");
        Check.due("no rules", 0, x.close(10));
        Check.due("an act", 1, x.count(2));
        Check.due("undone", 0, x.undo());
        x = Check.with("letters 2;rule a>b;order ba;");
        Check.due("no overlaps", 0, x.close(1));
        Check.due("an act", 1, x.count(2));
    }

    private static void closeAnEmptyRight() {
        Check.promise(22, "of both ends of these RUNS that which is ABOVE the other one is LEFT, the other one RIGHT");
        RewrittenWords x = Check.with("letters 2;rule ab>;rule ab>b;");
        Check.due("one comes", 1, x.close(1));
        Check.due("with an empty right", "b>", Check.rule(x, 2));
        x = Check.with("letters 2;rule ab>b;rule ab>;");
        Check.due("one comes", 1, x.close(1));
        Check.due("the other way round, too", "b>", Check.rule(x, 2));
    }

    private static void closeTheLeastOne() {
        Check.promise(22, "that whose WORD is ABOVE none other's (of several the first)");
        RewrittenWords x = Check.with("letters 4;weigh a 2;rule a>b;rule a>c;rule a>d;");
        x.close(1);
        Check.due("of three of one word the first", "c>b", Check.rule(x, 3));
        x = Check.with("letters 3;rule bbb>a;rule bbb>c;rule aa>b;rule aa>c;");
        // both aa's overlap each other at 0 and themselves; aa is less than bbb, aaa
        x.close(1);
        Check.due("the less word, though it is later", "c>b", Check.rule(x, 4));
    }

    private static void closeCantBe() {
        Check.promise(22, "NONE (nothing changes): it can't be, if some RULE doesn't FALL");
        for (int n = 1; n <= 10; n += 3) {
            int by = n;
            Check.changesNothing("close " + n, -1, Scenes::withARise, x -> x.close(by));
        }
        for (int rise = 0; rise < 3; rise++) {
            String[] lines = {"rule ba>ab;", "rule aab>b;", "rule bb>a;"};
            lines[rise] = "rule ab>ba;";
            RewrittenWords x = Check.with("letters 2;" + lines[0] + lines[1] + lines[2]);
            int which = rise;
            Check.due("the one that rises is " + which, -1, x.close(10));
            Check.due("no act", 0, x.count(2));
        }
        Check.due("all fall", true, Check.with("letters 2;rule ba>ab;rule aab>b;rule bb>a;").close(1) >= 0);
    }

    private static String tidied(String system, int want) {
        RewrittenWords x = Check.with(system);
        Check.due("tidy of " + system, want, x.tidy());
        Check.due("an act", 1, x.count(2));
        String said = Check.say(x);
        return said.substring(0, said.indexOf('/'));
    }

    private static void tidyNothing() {
        Check.promise(23, "how many RULES went");
        Check.due("no rules", "", tidied("letters 2;", 0));
        Check.due("one rule", "a>", tidied("letters 2;rule a>;", 0));
        Check.due("none in another", "ab>,ba>", tidied("letters 2;rule ab>;rule ba>;", 0));
    }

    private static void tidyLikeLefts() {
        Check.promise(23, "again and again the first RULE in whose LEFT that of another RULE stands goes");
        Check.due("of two the last stays", "ab>b", tidied("letters 2;rule ab>;rule ab>b;", 1));
        Check.due("of six the last stays", "a>", tidied("letters 1;" + Scenes.times("rule a>;", 6), 5));
    }

    private static void tidyInside() {
        Check.promise(23, "in whose LEFT that of another RULE stands");
        Check.due("at its beginning", "ab>", tidied("letters 3;rule abc>;rule ab>;", 1));
        Check.due("inside", "b>", tidied("letters 3;rule abc>;rule b>;", 1));
        Check.due("at its end", "bc>", tidied("letters 3;rule bc>;rule abc>;", 1));
        Check.due("not beyond its end", "abc>,bca>", tidied("letters 3;rule abc>;rule bca>;", 0));
        Check.due("not in itself", "aaa>", tidied("letters 3;rule aaa>;", 0));
        Check.due("a chain", "a>", tidied("letters 1;rule aaaa>;rule aaa>;rule aa>;rule a>;", 3));
        Check.due("a chain the other way", "a>", tidied("letters 1;rule a>;rule aa>;rule aaa>;rule aaaa>;", 3));
    }

    private static void tidyRights() {
        Check.promise(23, "each RIGHT becomes the end of its RUN by WAY 0 (with the RIGHTS that were changed ahead)");
        Check.due("to an empty one", "b>,a>", tidied("letters 2;order ba;rule b>;rule a>b;", 0));
        Check.due("an empty one stays", "a>", tidied("letters 1;rule a>;", 0));
        // aba comes to ca by way 0, to a by the other ways
        Check.due("by way 0", "ab>c,ba>,dddd>ca", tidied("letters 4;rule ab>c;rule ba>;rule dddd>aba;", 0));
        Check.due("rights changed ahead", "c>a,d>a,e>a",
                tidied("letters 5;rule c>a;rule d>c;rule e>d;", 0));
        Check.due("those behind are not changed yet", "e>a,d>a,c>a",
                tidied("letters 5;rule e>d;rule d>c;rule c>a;", 0));
    }

    private static void tidyDerivations() {
        Check.promise(23, "all DERIVATIONS are of the WORDS that there are then, without STEPS");
        RewrittenWords x = Check.with("letters 2;rule ba>ab;rule bb>b;");
        for (int place = 0; place < 6; place++) {
            Check.tell(x, place, "bba".substring(place % 3));
            x.make(place, 0);
        }
        x.make(0, 0);
        Check.due("none goes", 0, x.tidy());
        String[] want = {"ab", "ab", "a", "ba", "ab", "a"};
        for (int place = 0; place < 6; place++) {
            int at = place;
            Check.due("word " + place, want[place], Check.word(x, place));
            Check.due("without steps " + place, 0, x.word(at, 8));
            Check.missing("without steps " + place, () -> x.made(at, 0, 0));
        }
        int kept = x.count(2);
        Check.due("undone", kept - 1, x.undo());
        Check.due("undone: the steps are there", 2, x.word(0, 8));
    }

    private static void tidyTwelve() {
        Check.promise(23, "(those behind it have numbers less by 1)");
        RewrittenWords x = twelve();
        String[] rules = new String[12];
        for (int rule = 0; rule < 12; rule++) {
            rules[rule] = Check.rule(x, rule);
        }
        int gone = x.tidy();
        // rules 7 to 11 of 16 letters have lefts of others in them
        Check.due("five of twelve", 5, gone);
        Check.due("seven rules", 7, x.count(1));
        for (int rule = 0; rule < 7; rule++) {
            Check.due("those ahead stay", rules[rule], Check.rule(x, rule));
        }
        Check.missing("no eighth", () -> x.side(7, false, 0));
        x.undo();
        Check.due("twelve again", 12, x.count(1));
        Check.due("the last is back", rules[11], Check.rule(x, 11));
    }

    private static void tidyCantBe() {
        Check.promise(23, "NONE (nothing changes): it can't be");
        Check.changesNothing("some rule doesn't fall", -1, Scenes::withARise, RewrittenWords::tidy);
        Check.due("the first", -1, Check.with("letters 2;rule a>b;rule bb>;").tidy());
        Check.due("the last", -1, Check.with("letters 2;rule bb>;rule bb>;rule a>b;").tidy());
    }

    private static void constants() {
        Check.promise(24, "LETTERS (bits) of which no RULE makes more or less");
        for (int letters = 1; letters <= 5; letters++) {
            Check.due("no rules", (1 << letters) - 1, Check.with("letters " + letters + ";").constant());
        }
        Check.due("none", 0, Check.with("letters 2;rule a>b;").constant());
        Check.due("one more", 2, Check.with("letters 2;rule ab>aab;").constant());
        Check.due("one less", 2, Check.with("letters 2;rule aab>ab;").constant());
        Check.due("more by one, less by another", 2, Check.with("letters 2;rule a>aa;rule aa>a;").constant());
        Check.due("the last of five", 15, Check.with("letters 5;rule e>;").constant());
        Check.due("the first of five", 30, Check.with("letters 5;rule a>;").constant());
        Check.due("as many", 31, Check.with("letters 5;rule abcd>dcba;rule eab>bea;").constant());
    }

    private static void heads() {
        Check.promise(27, "of all RULES that are its KIN, there or not, that whose LEFT and RIGHT .. are the first row");
        Check.due("of the last letter", "a>", Check.head(Check.with("letters 5;rule e>;"), 0));
        Check.due("of all letters", "abcd>e", Check.head(Check.with("letters 5;rule edcb>a;"), 0));
        Check.due("backwards", "aab>", Check.head(Check.with("letters 2;rule abb>;"), 0));
        Check.due("by right alone", "aba>ab", Check.head(Check.with("letters 2;rule aba>ba;"), 0));
        Check.due("by right alone", "aba>ab", Check.head(Check.with("letters 2;rule aba>ab;"), 0));
        Check.due("ahead, with its right", "aab>b", Check.head(Check.with("letters 2;rule aab>b;"), 0));
        Check.due("backwards, with its right", "aab>b", Check.head(Check.with("letters 2;rule abb>a;"), 0));
        Check.due("itself", "ab>ba", Check.head(Check.with("letters 2;rule ab>ba;"), 0));
    }

    private static void headsOfSixteen() {
        Check.promise(27, "NONE behind the last one");
        RewrittenWords x = twelve();
        // baaaaaaaaaaaabaa>baaaaaaaaaaaaaab; backwards aabaaaaaaaaaaaab>baaaaaaaaaaaaaab
        Check.due("of 16 letters", "aabaaaaaaaaaaaab>baaaaaaaaaaaaaab", Check.head(x, 7));
        Check.due("letter 15", 1, x.head(7, false, 15));
        Check.due("letter 16", -1, x.head(7, false, 16));
        Check.due("letter 16", -1, x.head(7, true, 16));
        Check.due("of rule 11", 0, x.head(11, false, 0));
        Check.due("far behind", -1, x.head(0, false, MOST));
        Check.due("far behind", -1, x.head(0, true, 22));
        x = Check.with("letters 2;rule ab>;");
        Check.due("the last", 1, x.head(0, false, 1));
        Check.due("behind it", -1, x.head(0, false, 2));
        Check.due("of an empty right", -1, x.head(0, true, 0));
    }

    private static void headMissing() {
        Check.promise(27, "NoSuchElementException: no such RULE, k is below 0");
        int[] wrong = {-1, 3, 12, LEAST, MOST};
        for (int rule : wrong) {
            Check.missing("rule " + rule, () -> Scenes.full().head(rule, false, 0));
            Check.missing("rule " + rule, () -> Scenes.full().head(rule, true, 5));
        }
        Check.missing("rule 12 of 12", () -> twelve().head(12, false, 0));
        Check.changesNothingMissing("k -1", Scenes::full, x -> x.head(0, false, -1));
        Check.changesNothingMissing("k least", Scenes::full, x -> x.head(0, true, LEAST));
        Check.missing("no rules", () -> new RewrittenWords().head(0, false, 0));
    }

    private static String frees(RewrittenWords x) {
        StringBuilder row = new StringBuilder();
        for (int n = 0; n <= 8; n++) {
            row.append(x.free(n)).append(' ');
        }
        return row.toString();
    }

    private static void freeZeroToEight() {
        Check.promise(28, "FREE of n (0 to 8): how many WORDS of n LETTERS have no LEFT in them");
        Check.due("no rules, one letter", "1 1 1 1 1 1 1 1 1 ", frees(Check.with("letters 1;")));
        Check.due("no rules, five letters", "1 5 25 125 625 3125 15625 78125 390625 ", frees(Check.with("letters 5;")));
        Check.due("nothing is free but the empty one", "1 0 0 0 0 0 0 0 0 ", frees(Check.with("letters 1;rule a>;")));
        Check.due("none of all letters", "1 0 0 0 0 0 0 0 0 ",
                frees(Check.with("letters 5;rule a>;rule b>;rule c>;rule d>;rule e>;")));
        Check.due("lefts of four", "1 1 1 1 0 0 0 0 0 ", frees(Check.with("letters 1;rule aaaa>;")));
        Check.due("a step that would be none counts", "1 1 1 1 1 1 1 1 1 ", frees(Check.with("letters 2;rule b>aaaa;")));
    }

    private static void freeOfLongLefts() {
        Check.promise(28, "have no LEFT in them");
        RewrittenWords x = Check.with(ENDLESS);
        // lefts: bb, baab, baaaab; then baaaaaab of 8; then one of 10
        x.close(2);
        int ofSix = x.free(8);
        int ofSeven = x.free(7);
        x.close(1);
        Check.due("a left of 8 letters", "baaaaaab>baaaaaaaa", Check.rule(x, 3));
        Check.due("8 letters: it is one less", ofSix - 1, x.free(8));
        Check.due("7 letters: as many", ofSeven, x.free(7));
        x.close(1);
        Check.due("a left of 10 letters", "baaaaaaaab>baaaaaaaaaa", Check.rule(x, 4));
        Check.due("8 letters: as many", ofSix - 1, x.free(8));
        RewrittenWords y = Check.with("letters 3;weigh b 6;weigh c 7;rule bca>;rule cbcc>aabb;");
        Check.due("ten come", 10, y.close(10));
        String[] lefts = new String[12];
        for (int rule = 0; rule < 12; rule++) {
            lefts[rule] = Check.rule(y, rule).replaceAll(">.*", "");
        }
        for (int n = 0; n <= 8; n++) {
            int letters = n;
            Check.due("of twelve lefts, " + n, freeByHand(lefts, "", n), y.free(letters));
        }
    }

    private static int freeByHand(String[] lefts, String word, int more) {
        for (String left : lefts) {
            if (word.contains(left)) {
                return 0;
            }
        }
        return more == 0 ? 1 : freeByHand(lefts, word + "a", more - 1) + freeByHand(lefts, word + "b", more - 1)
                + freeByHand(lefts, word + "c", more - 1);
    }

    private static void freeRefused() {
        Check.promise(28, "IllegalArgumentException: n");
        int[] wrong = {-1, 9, LEAST, MOST};
        for (int n : wrong) {
            Check.changesNothingRefused("free " + n, Scenes::full, x -> x.free(n));
            Check.refused("free " + n + " without rules", () -> new RewrittenWords().free(n));
        }
    }

    private static void kin(String letters, String one, String other, boolean want) {
        RewrittenWords x = Check.with("letters " + letters + ";rule " + one + ";rule " + other + ";");
        Check.due(one + " and " + other, want, x.areKin(0, 1));
        Check.due(other + " and " + one, want, x.areKin(1, 0));
    }

    private static void kin() {
        Check.promise(29, "(a RULE to itself it is); by LETTERS that have other names .. both sides read backwards");
        kin("1", "a>", "a>", true);
        kin("1", "a>", "aa>", false);
        kin("1", "aa>a", "aaa>a", false);
        kin("1", "aa>", "aa>a", false);
        kin("5", "a>", "e>", true);
        kin("5", "abcd>e", "edcb>a", true);
        kin("2", "ab>", "aa>", false);
        kin("2", "aa>", "ab>", false);
        kin("3", "abc>", "aba>", false);
        kin("2", "aab>", "abb>", true);
        kin("2", "aab>ab", "abb>ba", false);
        kin("2", "aab>ab", "abb>ab", true);
        // one side backwards alone is not enough
        kin("3", "abc>ab", "abc>ba", false);
        RewrittenWords x = twelve();
        for (int rule = 0; rule < 12; rule++) {
            int which = rule;
            Check.due("to itself", true, x.areKin(which, which));
        }
    }

    private static void kinMissing() {
        Check.promise(29, "NoSuchElementException: no such RULES");
        int[] wrong = {-1, 3, 12, LEAST, MOST};
        for (int rule : wrong) {
            Check.missing("one " + rule, () -> Scenes.full().areKin(rule, 0));
            Check.missing("other " + rule, () -> Scenes.full().areKin(0, rule));
            Check.missing("both " + rule, () -> Scenes.full().areKin(rule, rule));
        }
        Check.missing("rule 12 of 12", () -> twelve().areKin(0, 12));
    }
}

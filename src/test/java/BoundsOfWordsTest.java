/** The boundary cases of promises 8 to 19 and of what "Terms" says of WORDS: a test for each sentence. */
public final class BoundsOfWordsTest {
    private static final int LEAST = Integer.MIN_VALUE;
    private static final int MOST = Integer.MAX_VALUE;
    private static final int[] NO_PLACES = {-1, 6, LEAST, MOST};
    private static final String SIXTEEN = "abcabcabcabcabca";
    /** 200 WORDS, of which the last one that comes is the only one that is NORMAL. */
    private static final String DOWN = "letters 5;rule e>d;rule d>c;rule c>b;rule b>a;";
    /** 201 WORDS from bbbbbaabb, of which the last one, the empty one, is the only one that is NORMAL. */
    private static final String ONE_TOO_MANY = "letters 2;rule b>a;rule abb>aaa;rule aaa>;";
    /** A WORD of m b's and n a's goes on for m times n STEPS. */
    private static final String SORT = "letters 2;rule ba>ab;";

    public static void main(String[] args) {
        tellUpToSixteen();
        tellNothing();
        tellEveryByte();
        tellNoLetter();
        tellRefused();
        tellRefusedAhead();
        everyPlace();
        wordMissing();
        wordOfNothing();
        wordOfSixteen();
        stepsUpToSixteen();
        stepsInOrder();
        reachOf200();
        reachHasWordsOf16();
        ends();
        loops();
        derivationsOfForty();
        atItsBounds();
        stepMissing();
        makeNothingAndSixteen();
        makeNoSuchStep();
        makeFortyFirst();
        makeNoPlace();
        runOfNothing();
        runOfSixty();
        runThatComesBack();
        runByWays();
        runRefused();
        goUpToForty();
        goRefused();
        takeTheLast();
        takeRefused();
        cameTheLast();
        meetTheLast();
        meetMissing();
        farOf200();
        farOfSixteen();
        farOfEmptyRights();
        farMissing();
        compareEdges();
        compareMissing();
        Check.promisesFrom(8, 19);
        Check.end("BoundsOfWordsTest");
    }

    private static RewrittenWords with(String system, String... words) {
        RewrittenWords x = Check.with(system);
        for (int place = 0; place < words.length; place++) {
            Check.due("tell " + words[place], words[place].length(), Check.tell(x, place, words[place]));
        }
        return x;
    }

    private static void tellUpToSixteen() {
        Check.promise(8, "NONE (nothing else changes): .. there are more than 16");
        RewrittenWords x = Scenes.full();
        Check.due("sixteen of forty bytes", 16, x.tell(2, 16));
        Check.due("sixteen", SIXTEEN, Check.word(x, 2));
        Check.due("the tape is empty then", 0, x.count(3));
        Check.due("an act", 6, x.count(2));
        int[] tooMany = {17, 20, 40};
        for (int n : tooMany) {
            RewrittenWords y = Scenes.withTwentyActs();
            Check.due("tell " + n, -1, y.tell(0, n));
            Check.due("the tape is empty, also if they don't", 0, y.count(3));
            Check.due("the fault stays", 8, y.fault());
            Check.due("changes", "", Look.difference(Look.withoutTape(Scenes.withTwentyActs()), Look.withoutTape(y)));
        }
    }

    private static void tellNothing() {
        Check.promise(8, "A WORD is a row of 0 to 16 LETTERS");
        RewrittenWords x = with("letters 2;rule a>b;", "ab");
        x.make(0, 0);
        Check.due("0 of an empty tape", 0, x.tell(0, 0));
        Check.due("it is empty", 0, x.word(0, 0));
        Check.due("an act", 3, x.count(2));
        Check.due("without steps", 0, x.word(0, 8));
        Check.due("undone", 2, x.undo());
        Check.due("undone", "bb", Check.word(x, 0));
        Check.feed(x, "??");
        Check.due("0 of 20 bytes", 0, x.tell(1, 0));
        Check.due("the tape is empty then", 0, x.count(3));
    }

    private static void tellEveryByte() {
        Check.promise(8, "(a, b, .. alone; the tape is empty then, also if they don't)");
        for (int letters = 1; letters <= 5; letters++) {
            for (int sign = 0; sign < 256; sign += letters == 3 ? 1 : 8) {
                RewrittenWords x = Check.with("letters " + letters + ";");
                int want = sign >= 'a' && sign < 'a' + letters ? 1 : -1;
                Check.due("byte " + sign, want, Check.tell(x, 0, "" + (char) sign));
                Check.due("the tape is empty", 0, x.count(3));
            }
            RewrittenWords x = Check.with("letters " + letters + ";");
            Check.due("the last letter", 1, Check.tell(x, 0, "" + (char) ('a' + letters - 1)));
            Check.due("that behind it", -1, Check.tell(x, 0, "" + (char) ('a' + letters)));
            Check.due("the tape is empty", 0, x.count(3));
            Check.due("the byte ahead of a", -1, Check.tell(x, 0, "`"));
        }
    }

    private static void tellNoLetter() {
        Check.promise(8, "there is a byte that is no LETTER");
        String[] wrong = {"d", "dabc", "abcd", "abcabcabcabcabcd", "a b", "ab\n", "aB", "1"};
        for (String row : wrong) {
            RewrittenWords x = Scenes.withTwentyActs();
            x.tell(0, 17);
            Check.due("tell " + row, -1, Check.tell(x, 0, row));
            Check.due("the tape is empty", 0, x.count(3));
            Check.due("changes", "", Look.difference(Look.withoutTape(Scenes.withTwentyActs()), Look.withoutTape(x)));
        }
        RewrittenWords x = Check.with("letters 2;");
        Check.feed(x, "ab?");
        Check.due("what is behind the first n", 2, x.tell(0, 2));
    }

    private static void tellRefused() {
        Check.promise(8, "IllegalArgumentException (.. nothing changes): no such PLACE, the tape has not so many, n below 0");
        for (int place : NO_PLACES) {
            Check.changesNothingRefused("place " + place, Scenes::full, x -> x.tell(place, 1));
            Check.changesNothingRefused("place " + place, Scenes::withTwentyActs, x -> x.tell(place, 0));
        }
        int[] wrong = {41, 60, 301, MOST, -1, LEAST};
        for (int n : wrong) {
            Check.changesNothingRefused("n " + n, Scenes::full, x -> x.tell(0, n));
            Check.changesNothingRefused("n " + n, Scenes::withTwentyActs, x -> x.tell(5, n));
        }
        Check.changesNothingRefused("an empty tape", RewrittenWords::new, x -> x.tell(0, 1));
        Check.due("just so many, but they are too many", -1, Scenes.full().tell(0, 40));
    }

    private static void tellRefusedAhead() {
        Check.promise(8, "IllegalArgumentException (ahead of that, and nothing changes)");
        RewrittenWords x = Check.with("letters 2;");
        Check.feed(x, "????????????????????");
        Check.refused("no such place, no letters", () -> x.tell(6, 1));
        Check.refused("no such place, more than 16", () -> x.tell(-1, 17));
        Check.refused("not so many, more than 16", () -> x.tell(0, 21));
        Check.due("the tape stays", 20, x.count(3));
        Check.due("then they are read", -1, x.tell(0, 20));
        Check.due("the tape is empty", 0, x.count(3));
    }

    private static void everyPlace() {
        Check.promise(8, "PLACES 0 to 5 have a WORD each");
        RewrittenWords x = with("letters 3;", "a", "ab", "abc", "ba", "c", "cc");
        String[] want = {"a", "ab", "abc", "ba", "c", "cc"};
        for (int place = 0; place < 6; place++) {
            Check.due("place " + place, want[place], Check.word(x, place));
        }
    }

    private static void wordMissing() {
        Check.promise(9, "NoSuchElementException: no such PLACE, another what");
        for (int what = 0; what <= 9; what++) {
            for (int place : NO_PLACES) {
                int of = what;
                Check.missing("place " + place + " what " + what, () -> Scenes.full().word(place, of));
            }
        }
        int[] wrong = {-1, 10, LEAST, MOST};
        for (int what : wrong) {
            Check.changesNothingMissing("what " + what, Scenes::full, x -> x.word(5, what));
        }
    }

    private static void wordOfNothing() {
        Check.promise(9, "A WORD without a STEP is NORMAL");
        RewrittenWords x = with("letters 2;rule a>b;rule b>;", "");
        int[] want = {0, 0, 0, 1, 1, 1, 0, -1, 0, 0};
        for (int what = 0; what <= 9; what++) {
            Check.due("of an empty word " + what, want[what], x.word(0, what));
        }
        Check.tell(x, 0, "b");
        int[] ofB = {1, 1, 1, 0, 2, 1, 1, -1, 0, 0};
        for (int what = 0; what <= 9; what++) {
            Check.due("of one letter " + what, ofB[what], x.word(0, what));
        }
    }

    private static void wordOfSixteen() {
        Check.promise(9, "0 how many LETTERS, 1 its WEIGHT");
        RewrittenWords x = with("letters 2;weigh b 9;", "bbbbbbbbbbbbbbbb", "aaaaaaaaaaaaaaaa");
        Check.due("letters", 16, x.word(0, 0));
        Check.due("the greatest weight", 144, x.word(0, 1));
        Check.due("the least one of 16", 16, x.word(1, 1));
        Check.due("normal", 1, x.word(0, 3));
    }

    private static void stepsUpToSixteen() {
        Check.promise(9, "the WORD then has 16 LETTERS at most (else it is no STEP)");
        for (int right = 2; right <= 4; right++) {
            String system = "letters 2;rule a>" + "bbbb".substring(4 - right) + ";";
            String just = "a" + Scenes.times("b", 16 - right);
            RewrittenWords x = with(system, just, just + "b");
            Check.due("16 come of it", 1, x.word(0, 2));
            Check.due("16 come of it: not normal", 0, x.word(0, 3));
            Check.due("17 would come", 0, x.word(1, 2));
            Check.due("17 would come: normal", 1, x.word(1, 3));
            Check.due("17 would come: reach", 1, x.word(1, 4));
            Check.due("17 would come: end", 0, x.word(1, 6));
            Check.due("16 letters", 16, x.make(0, 0));
            Check.due("no step", -1, x.make(1, 0));
            Check.due("no step in a run", 0, x.run(1, 0, 1));
        }
        RewrittenWords x = with("letters 2;rule ab>ba;rule a>;rule a>bb;", "aaaaaaaaaaaaaaab");
        // 15 that erase, 1 that turns; those that lengthen are none
        Check.due("steps of 16 letters", 16, x.word(0, 2));
        Check.due("of 16 letters the same number can come", 0, x.step(0, 14, 1));
        Check.due("its place", 14, x.step(0, 14, 0));
    }

    private static void stepsInOrder() {
        Check.promise(11, "STEPS are numbered by where LEFT begins (0 on), then by RULES");
        RewrittenWords x = with("letters 2;rule ba>;rule a>b;rule ab>b;", "aba");
        int[] where = {0, 0, 1, 2};
        int[] rule = {1, 2, 0, 1};
        for (int k = 0; k < 4; k++) {
            Check.due("where " + k, where[k], x.step(0, k, 0));
            Check.due("rule " + k, rule[k], x.step(0, k, 1));
        }
        Check.missing("step 4", () -> x.step(0, 4, 0));
        // left at the very end, and one letter beyond it
        Check.system(x, "letters 2;rule aab>b;");
        Check.tell(x, 0, "bbaab");
        Check.tell(x, 1, "bbaa");
        Check.due("at the end", 2, x.step(0, 0, 0));
        Check.due("not beyond it", 0, x.word(1, 2));
    }

    private static void reachOf200() {
        Check.promise(9, "200 WORDS at most (none comes then any more)");
        RewrittenWords x = with("letters 2;rule aa>a;rule a>aa;rule ba>;", "babab");
        Check.due("199", 199, x.word(0, 4));
        x = with(DOWN, "eebbb", "eebbbb");
        Check.due("200", 200, x.word(0, 4));
        Check.due("the 200th is normal", 1, x.word(0, 5));
        Check.due("200 of 400", 200, x.word(1, 4));
        Check.due("the normal one isn't among them", 0, x.word(1, 5));
        x = with(ONE_TOO_MANY, "bbbbbaabb");
        Check.due("200 of 201", 200, x.word(0, 4));
        Check.due("the 201st would be normal", 0, x.word(0, 5));
        x = with("letters 2;rule aab>baa;rule ba>baa;", "babbaaaa");
        Check.due("200 of 201", 200, x.word(0, 4));
        Check.due("the last one's letters", 16, x.take(1, 0, 199));
        Check.due("the last one", "bbabaaaaaaaaaaaa", Check.word(x, 1));
        x = with("letters 1;", "aaa");
        Check.due("itself alone", 1, x.word(0, 4));
        Check.system(x, "letters 1;rule a>;");
        Check.tell(x, 0, "aaa");
        Check.due("by another system", 4, x.word(0, 4));
        Check.system(x, "letters 1;rule aaa>a;");
        Check.tell(x, 0, "aaa");
        Check.due("by another system", 2, x.word(0, 4));
    }

    private static void reachHasWordsOf16() {
        Check.promise(9, "REACH of a WORD: .. what their STEPS make");
        RewrittenWords x = with("letters 1;rule a>aa;", "a");
        Check.due("a to sixteen a's", 16, x.word(0, 4));
        Check.due("the last has 16", 16, x.take(1, 0, 15));
        Check.due("by 15 steps", 15, x.came(0, 15));
        Check.due("it is normal", 1, x.word(0, 5));
        Check.due("end", 15, x.word(0, 6));
    }

    private static void ends() {
        Check.promise(9, "6 END (NONE: none): the fewest STEPS to a NORMAL WORD of its REACH");
        RewrittenWords x = with(DOWN, "eebbb", "eebbbb", "aaa");
        Check.due("by the 200th word", 11, x.word(0, 6));
        Check.due("beyond 200 words", -1, x.word(1, 6));
        Check.due("normal itself", 0, x.word(2, 6));
        x = with(ONE_TOO_MANY, "bbbbbaabb");
        Check.due("by the 201st word", -1, x.word(0, 6));
        x = with("letters 3;rule a>b;rule b>a;rule bb>c;", "a", "ab");
        Check.due("none", -1, x.word(0, 6));
        Check.due("the fewest", 2, x.word(1, 6));
    }

    private static void loops() {
        Check.promise(9, "7 LOOP (NONE: none): the fewest STEPS (1 or more) .. by WORDS of its REACH");
        RewrittenWords x = with("letters 2;rule a>b;rule b>a;", "a", "", "aa");
        Check.due("by two steps", 2, x.word(0, 7));
        Check.due("not by none", -1, x.word(1, 7));
        Check.due("the fewest", 2, x.word(2, 7));
        x = with("letters 2;rule ab>aaa;rule aa>abb;rule bb>;", "aa");
        Check.due("200 words", 200, x.word(0, 4));
        Check.due("by a step of the 200th word", 9, x.word(0, 7));
        x = with("letters 2;rule bab>baa;rule a>bbb;rule baa>a;", "ababa");
        Check.due("200 of 380 words", 200, x.word(0, 4));
        Check.due("by the words behind the 200th alone", -1, x.word(0, 7));
        x = with("letters 2;rule a>b;", "a");
        Check.due("none", -1, x.word(0, 7));
        x = with("letters 2;rule a>b;rule b>aa;rule aa>b;", "a", "b");
        Check.due("others come to themselves, it doesn't", -1, x.word(0, 7));
        Check.due("others come to themselves", 2, x.word(1, 7));
    }

    private static void derivationsOfForty() {
        Check.promise(9, "8 STEPS of the DERIVATION, 9 its ROUNDS (0 without a STEP)");
        RewrittenWords x = Scenes.withFortySteps();
        Check.due("forty", 40, x.word(0, 8));
        Check.due("forty rounds", 40, x.word(0, 9));
        Check.due("without", 0, x.word(1, 8));
        Check.due("without", 0, x.word(1, 9));
        x = with("letters 2;rule a>b;", "aaaaaaaaaaaaaaaa");
        x.make(0, 3);
        Check.due("one", 1, x.word(0, 9));
        x.go(0, 0);
        Check.due("sixteen steps", 16, x.word(0, 8));
        Check.due("in one round", 1, x.word(0, 9));
    }

    private static void atItsBounds() {
        Check.promise(10, "NONE behind the last one. NoSuchElementException: no such PLACE, k is below 0");
        RewrittenWords x = with("letters 3;", SIXTEEN, "b", "");
        Check.due("the first", 0, x.at(0, 0));
        Check.due("the last of 16", 0, x.at(0, 15));
        int[] behind = {16, 17, 21, 22, 43, 64, MOST};
        for (int k : behind) {
            Check.due("16, at " + k, -1, x.at(0, k));
            Check.due("one, at " + k, -1, x.at(1, k));
            Check.due("none, at " + k, -1, x.at(2, k));
        }
        Check.due("one", 1, x.at(1, 0));
        Check.due("behind it", -1, x.at(1, 1));
        Check.due("none", -1, x.at(2, 0));
        Check.missing("k -1", () -> x.at(0, -1));
        Check.missing("k -1 of none", () -> x.at(2, -1));
        Check.missing("k least", () -> x.at(0, LEAST));
        for (int place : NO_PLACES) {
            Check.missing("place " + place, () -> x.at(place, 0));
            Check.missing("place " + place, () -> x.at(place, 16));
        }
    }

    private static void stepMissing() {
        Check.promise(11, "NoSuchElementException: no such PLACE, STEP, another what");
        RewrittenWords x = with("letters 2;rule a>b;rule ab>;", "aab", "bb", "");
        Check.due("the last step", 1, x.step(0, 2, 1));
        int[] noSteps = {3, 4, -1, LEAST, MOST};
        for (int k : noSteps) {
            Check.missing("step " + k, () -> x.step(0, k, 0));
            Check.missing("step " + k, () -> x.step(0, k, 1));
        }
        Check.missing("of a normal word", () -> x.step(1, 0, 0));
        Check.missing("of an empty word", () -> x.step(2, 0, 0));
        int[] wrong = {-1, 2, LEAST, MOST};
        for (int what : wrong) {
            Check.missing("what " + what, () -> x.step(0, 0, what));
        }
        for (int place : NO_PLACES) {
            Check.missing("place " + place, () -> x.step(place, 0, 0));
        }
        Check.changesNothingMissing("no such step", Scenes::full, y -> y.step(0, 0, 0));
    }

    private static void makeNothingAndSixteen() {
        Check.promise(12, "how many LETTERS there are");
        RewrittenWords x = with("letters 2;rule ab>;rule b>abab;", "ab", "aaaaaaaaaaaab", "aaaaaaaaaaaaab");
        Check.due("none", 0, x.make(0, 0));
        Check.due("sixteen", 16, x.make(1, 1));
        Check.due("sixteen", "aaaaaaaaaaaaabab", Check.word(x, 1));
        Check.due("acts", 5, x.count(2));
        Check.due("seventeen would be, so it is no step", -1, x.make(2, 1));
        Check.due("the only step of 14 letters", 12, x.make(2, 0));
    }

    private static void makeNoSuchStep() {
        Check.promise(12, "NONE (nothing changes): no such STEP");
        int[] wrong = {-1, 2, 16, LEAST, MOST};
        for (int k : wrong) {
            Check.changesNothing("step " + k, -1, BoundsOfWordsTest::withTwoSteps, x -> x.make(0, k));
            Check.changesNothing("normal, step " + k, -1, Scenes::withTwentyActs, x -> x.make(1, k));
            Check.changesNothing("empty, step " + k, -1, Scenes::withTwentyActs, x -> x.make(4, k));
        }
        Check.changesNothing("normal", -1, Scenes::withTwentyActs, x -> x.make(1, 0));
        Check.due("the last one", 2, withTwoSteps().make(0, 1));
    }

    /** bab has two STEPS; 20 ACTS are kept. */
    private static RewrittenWords withTwoSteps() {
        RewrittenWords x = with("letters 2;rule ab>b;rule ba>a;", "bab", "a");
        for (int k = 0; k < 20; k++) {
            x.take(k % 5 + 1, k % 2, 0);
        }
        return x;
    }

    private static void makeFortyFirst() {
        Check.promise(12, "NONE (nothing changes): .. the DERIVATION has 40");
        Check.changesNothing("the 41st", -1, Scenes::withFortySteps, x -> x.make(0, 0));
        RewrittenWords x = Scenes.withFortySteps();
        Check.due("another place goes on", 0, x.tell(1, 0));
        x.undo();
        Check.due("one undone", 19, x.count(2));
        x.undo();
        Check.due("39", 39, x.word(0, 8));
        Check.due("the 40th again", 1, x.make(0, 0));
        Check.due("the 41st", -1, x.make(0, 0));
        x.take(0, 0, 0);
        Check.due("told anew", 1, x.make(0, 0));
    }

    private static void makeNoPlace() {
        Check.promise(12, "NoSuchElementException: no such PLACE");
        for (int place : NO_PLACES) {
            Check.changesNothingMissing("place " + place, Scenes::full, x -> x.make(place, 0));
            Check.changesNothingMissing("place " + place, Scenes::full, x -> x.make(place, -1));
        }
        RewrittenWords x = with("letters 2;rule a>b;", "", "", "", "", "", "a");
        Check.due("place 5", 1, x.make(5, 0));
    }

    private static String run(RewrittenWords x, int place, int way) {
        return x.run(place, way, 0) + " " + x.run(place, way, 1) + " " + x.run(place, way, 2);
    }

    private static void runOfNothing() {
        Check.promise(13, "STEP by STEP until (the first that is so) it is NORMAL (0)");
        RewrittenWords x = with(SORT, "aabb", "", "ba");
        for (int way = 0; way <= 2; way++) {
            Check.due("normal at once", "0 0 4", run(x, 0, way));
            Check.due("empty", "0 0 0", run(x, 1, way));
            Check.due("one step", "0 1 2", run(x, 2, way));
        }
        Check.due("nothing stays", "ba", Check.word(x, 2));
        Check.due("nothing stays", 3, x.count(2));
    }

    /** As many STEPS as b's have a's behind them. */
    private static String sorted(int steps) {
        // eight b's, eight a's: 64; an a that goes ahead of b's takes as many
        int ahead = 64 - steps;
        return Scenes.times("b", 8 - ahead) + "a" + Scenes.times("b", ahead) + "aaaaaaa";
    }

    private static void runOfSixty() {
        Check.promise(13, "60 STEPS were made (2)");
        RewrittenWords x = with(SORT, sorted(59), sorted(60), sorted(61));
        for (int way = 0; way <= 2; way++) {
            Check.due("59 steps", "0 59 16", run(x, 0, way));
            Check.due("60 steps, then it is normal", "0 60 16", run(x, 1, way));
            Check.due("61 steps would be", "2 60 16", run(x, 2, way));
        }
    }

    private static void runThatComesBack() {
        Check.promise(13, "it is a WORD that it was ahead (1)");
        RewrittenWords x = with("letters 2;rule a>b;rule b>a;", "a", "ab");
        Check.due("its first word", "1 2 1", run(x, 0, 0));
        Check.due("its first word", "1 2 2", run(x, 1, 1));
        x.make(0, 0);
        Check.due("what it was ahead of the run doesn't count", "1 2 1", run(x, 0, 0));
        x = with("letters 3;rule a>b;rule b>c;rule c>b;", "a");
        Check.due("its second word", "1 3 1", run(x, 0, 0));
        x = with("letters 2;rule aaa>bb;rule a>aa;rule b>a;", "b");
        Check.due("by 59 steps", "1 59", x.run(0, 0, 0) + " " + x.run(0, 0, 1));
        x = with("letters 2;rule bab>;rule aa>bb;rule b>bba;", "aa");
        Check.due("by just 60 steps", "1 60", x.run(0, 0, 0) + " " + x.run(0, 0, 1));
        x = with("letters 2;rule aa>bb;rule a>ba;rule b>a;rule b>baa;", "a");
        Check.due("by 61 steps it would be", "2 60", x.run(0, 0, 0) + " " + x.run(0, 0, 1));
    }

    private static void runByWays() {
        Check.promise(13, "WAYS: 0 the first STEP, 1 the last one, 2 that behind which the WORD is the least");
        RewrittenWords x = with("letters 3;rule a>bb;rule a>b;rule a>c;", "aa", "aa", "aa");
        Check.due("0", "0 2 4", run(x, 0, 0));
        Check.due("1", "0 2 2", run(x, 0, 1));
        Check.due("2", "0 2 2", run(x, 0, 2));
        x.go(1, 0);
        Check.due("0", "bbbb", Check.word(x, 1));
        x.go(2, 1);
        Check.due("1", "cc", Check.word(x, 2));
        Check.due("1: the last place first", 1, x.made(2, 0, 0));
        x.go(0, 2);
        // ab and ba: ab is less, though its step is later; then bb by the only letter
        Check.due("2: the less word", 1, x.made(0, 0, 0));
        Check.due("2: its rule", 1, x.made(0, 0, 1));
        Check.due("2", "bb", Check.word(x, 0));
        x = with("letters 2;rule aa>a;rule aaa>aa;", "aaaa");
        x.go(0, 2);
        Check.due("of several steps the first: where", 0, x.made(0, 0, 0));
        Check.due("of several steps the first: rule", 0, x.made(0, 0, 1));
        x = with("letters 2;rule aaa>aa;rule aa>a;", "baaa");
        x.go(0, 2);
        Check.due("of several steps the first: where", 1, x.made(0, 0, 0));
        Check.due("of several steps the first: rule", 0, x.made(0, 0, 1));
    }

    private static void runRefused() {
        Check.promise(13, "NoSuchElementException: no such PLACE, another what. IllegalArgumentException (behind that): no such WAY");
        int[] noWays = {-1, 3, LEAST, MOST};
        int[] noWhats = {-1, 3, LEAST, MOST};
        for (int way : noWays) {
            for (int what = 0; what <= 2; what++) {
                int of = what;
                Check.changesNothingRefused("way " + way, Scenes::full, x -> x.run(5, way, of));
            }
            for (int place : NO_PLACES) {
                Check.missing("place " + place + " ahead of way " + way, () -> Scenes.full().run(place, way, 0));
            }
            for (int what : noWhats) {
                Check.missing("what " + what + " ahead of way " + way, () -> Scenes.full().run(0, way, what));
            }
        }
        for (int what : noWhats) {
            Check.changesNothingMissing("what " + what, Scenes::full, x -> x.run(0, 0, what));
        }
        for (int place : NO_PLACES) {
            Check.changesNothingMissing("place " + place, Scenes::full, x -> x.run(place, 0, 0));
        }
    }

    /** PLACE 0 has a WORD of some STEPS and some made already; 20 ACTS are kept. */
    private static RewrittenWords sortedPartly(String word, int made) {
        RewrittenWords x = with(SORT, word);
        for (int k = 0; k < made; k++) {
            x.make(0, 0);
        }
        for (int k = made; k < 20; k++) {
            x.tell(1, 0);
        }
        return x;
    }

    private static void goUpToForty() {
        Check.promise(14, "NONE (nothing changes): the DERIVATION would have more than 40");
        // 5 times 8, and 5 times 7 with 6
        String forty = "bbbbbaaaaaaaa";
        String fortyOne = "bbbbbabaaaaaa";
        for (int way = 0; way <= 2; way++) {
            int by = way;
            Check.due("forty", 40, sortedPartly(forty, 0).go(0, by));
            Check.due("one and 39", 39, sortedPartly(forty, 1).go(0, by));
            Check.due("39 and one", 1, sortedPartly(forty, 39).go(0, by));
            Check.due("forty and none", 0, sortedPartly(forty, 40).go(0, by));
            int[] made = {0, 1, 39};
            for (int ahead : made) {
                Check.changesNothing("41, " + ahead + " made", -1, () -> sortedPartly(fortyOne, ahead),
                        x -> x.go(0, by));
            }
            Check.changesNothing("40 and one", -1, () -> sortedPartly(fortyOne, 40), x -> x.go(0, by));
            Check.changesNothing("sixty", -1, () -> sortedPartly(sorted(61), 0), x -> x.go(0, by));
        }
        RewrittenWords x = sortedPartly(forty, 0);
        x.go(0, 0);
        Check.due("all are made", 40, x.word(0, 8));
        Check.due("all are made", "aaaaaaaabbbbb", Check.word(x, 0));
        Check.due("it goes on by none: an act", 0, x.go(0, 1));
        Check.due("that is undone", 19, x.undo());
        Check.due("that is undone", 40, x.word(0, 8));
        Check.due("all are undone", 18, x.undo());
        Check.due("all are undone", forty, Check.word(x, 0));
        Check.due("all are undone", 0, x.word(0, 8));
        Check.due("no step: an act all the same", 0, x.go(2, 0));
        Check.due("no step: an act all the same", 19, x.count(2));
        x = with("letters 2;rule a>b;rule b>a;", "a");
        Check.due("a run that comes back", 2, x.go(0, 0));
        for (int k = 4; k <= 40; k += 2) {
            Check.due("and again", 2, x.go(0, 0));
            Check.due("and again", k, x.word(0, 8));
        }
        Check.due("no more than 40", -1, x.go(0, 0));
    }

    private static void goRefused() {
        Check.promise(14, "NoSuchElementException: no such PLACE. IllegalArgumentException (behind that): no such WAY");
        int[] noWays = {-1, 3, LEAST, MOST};
        for (int way : noWays) {
            Check.changesNothingRefused("way " + way, Scenes::withTwentyActs, x -> x.go(5, way));
            Check.changesNothingRefused("way " + way + " ahead of 41", () -> sortedPartly(sorted(61), 0),
                    x -> x.go(0, way));
            for (int place : NO_PLACES) {
                Check.missing("place " + place + " ahead of way " + way, () -> Scenes.full().go(place, way));
            }
        }
        for (int place : NO_PLACES) {
            Check.changesNothingMissing("place " + place, Scenes::full, x -> x.go(place, 0));
        }
    }

    private static void takeTheLast() {
        Check.promise(15, "a PLACE has the k-th WORD (0 on) of REACH");
        RewrittenWords x = with(DOWN, "eebbb", "eebbbb");
        Check.due("the first", 5, x.take(2, 0, 0));
        Check.due("the first", "eebbb", Check.word(x, 2));
        Check.due("the 200th", 5, x.take(5, 0, 199));
        Check.due("the 200th", "aaaaa", Check.word(x, 5));
        Check.missing("the 201st", () -> x.take(5, 0, 200));
        Check.due("200 of 400", 6, x.take(5, 1, 199));
        Check.missing("the 201st of 400", () -> x.take(5, 1, 200));
        Check.due("its own", 5, x.take(0, 0, 199));
        Check.due("its own", "aaaaa", Check.word(x, 0));
        Check.missing("of one word the second", () -> x.take(3, 0, 1));
        Check.due("an empty one", 0, x.take(0, 3, 0));
        Check.due("an empty one", "", Check.word(x, 0));
    }

    private static void takeRefused() {
        Check.promise(15, "NoSuchElementException: no such PLACES, WORD");
        // reach of the word of place 0: aa alone
        int[] noWords = {-1, 1, 200, LEAST, MOST};
        for (int k : noWords) {
            Check.changesNothingMissing("word " + k, Scenes::withTwentyActs, x -> x.take(1, 0, k));
        }
        for (int place : NO_PLACES) {
            Check.changesNothingMissing("to " + place, Scenes::withTwentyActs, x -> x.take(place, 0, 0));
            Check.changesNothingMissing("from " + place, Scenes::withTwentyActs, x -> x.take(0, place, 0));
        }
    }

    private static void cameTheLast() {
        Check.promise(16, "NoSuchElementException: no such PLACE, WORD");
        RewrittenWords x = with(DOWN, "eebbb", "eebbbb", "");
        Check.due("the first", 0, x.came(0, 0));
        Check.due("the second", 1, x.came(0, 1));
        Check.due("the 199th", 10, x.came(0, 198));
        Check.due("the 200th", 11, x.came(0, 199));
        Check.missing("the 201st", () -> x.came(0, 200));
        Check.missing("the 201st of 400", () -> x.came(1, 200));
        Check.due("of an empty word", 0, x.came(2, 0));
        Check.missing("of an empty word", () -> x.came(2, 1));
        int[] noWords = {-1, 201, LEAST, MOST};
        for (int k : noWords) {
            Check.missing("word " + k, () -> x.came(0, k));
        }
        for (int place : NO_PLACES) {
            Check.missing("place " + place, () -> x.came(place, 0));
        }
    }

    private static void meetTheLast() {
        Check.promise(17, "where it is in REACH of the first (what 0), of the second (1); NONE: none");
        RewrittenWords x = with(DOWN, "eebbb", "aaaaa", "eebbbb", "aaaaaa", "", "baaaa");
        Check.due("the 200th word", 199, x.meet(0, 1, 0));
        Check.due("the 200th word", 0, x.meet(0, 1, 1));
        Check.due("the other way round", 0, x.meet(1, 0, 0));
        Check.due("the other way round", 199, x.meet(1, 0, 1));
        Check.due("beyond 200", -1, x.meet(2, 3, 0));
        Check.due("beyond 200", -1, x.meet(3, 2, 1));
        Check.due("alike", 0, x.meet(2, 2, 0));
        Check.due("alike", 0, x.meet(2, 2, 1));
        Check.due("empty ones", 0, x.meet(4, 4, 0));
        Check.due("none", -1, x.meet(4, 0, 0));
        Check.due("none", -1, x.meet(4, 0, 1));
        Check.due("the 199th word", 198, x.meet(0, 5, 0));
        x = with(ONE_TOO_MANY, "bbbbbaabb", "");
        Check.due("the 201st word", -1, x.meet(0, 1, 0));
        Check.due("the 201st word", -1, x.meet(1, 0, 0));
    }

    private static void meetMissing() {
        Check.promise(17, "NoSuchElementException: no such PLACES, another what");
        for (int place : NO_PLACES) {
            Check.missing("one " + place, () -> Scenes.full().meet(place, 0, 0));
            Check.missing("other " + place, () -> Scenes.full().meet(0, place, 1));
        }
        int[] wrong = {-1, 2, LEAST, MOST};
        for (int what : wrong) {
            Check.changesNothingMissing("what " + what, Scenes::full, x -> x.meet(0, 0, what));
            Check.missing("none, what " + what, () -> Scenes.full().meet(0, 1, what));
        }
    }

    private static void farOf200() {
        Check.promise(18, "the fewest STEPS and STEPS BACK, by WORDS that come so .., 200 at most");
        String system = "letters 3;rule cbc>b;rule caa>ca;";
        RewrittenWords x = with(system, "abaaca", "abacaaaaaaaaaaa", "abacaaaaaaaaaaaa", "");
        Check.due("the 199th of 200", 13, x.far(0, 1));
        Check.due("the 200th of 200", 14, x.far(0, 2));
        Check.due("none", -1, x.far(0, 3));
        x = with("letters 2;rule abb>bba;rule bba>bbb;", "baaabbba", "aaabaabb", "aaaaabbb", "aaaaaabb");
        Check.due("the 199th of 201", 11, x.far(0, 1));
        Check.due("the 200th of 201", 11, x.far(0, 2));
        Check.due("the 201st of 201", -1, x.far(0, 3));
    }

    private static void farOfSixteen() {
        Check.promise(18, "becomes LEFT, likewise at most 16");
        // back from 15: a 16th letter can come, a 17th can't
        String system = "letters 2;rule bb>a;";
        RewrittenWords x = with(system, "aaaaaaaaaaaaaaa", "bbaaaaaaaaaaaaaa", "aaaaaaaaaaaaaaaa", "bbaaaaaaaaaaaaab");
        Check.due("16", 1, x.far(0, 1));
        Check.due("and on", 1, x.far(1, 0));
        Check.due("of 16 no step back", -1, x.far(2, 0));
        x = with("letters 2;rule bbbb>;", "aaaaaaaaaaaa", "aaaaaaaaaaaabbbb", "aaaaaaaaaaaaa", "bbbbaaaaaaaaaaaa");
        Check.due("12 and 4", 1, x.far(0, 1));
        Check.due("13 and 4 would be 17", -1, x.far(2, 1));
        Check.due("over 12", 2, x.far(1, 3));
        x = with("letters 2;rule a>aa;", "aaaaaaaaaaaaaaa", "aaaaaaaaaaaaaaaa", "a");
        Check.due("steps to 16", 1, x.far(0, 1));
        Check.due("back to one", 15, x.far(1, 2));
        Check.due("on from one", 15, x.far(2, 1));
    }

    private static void farOfEmptyRights() {
        Check.promise(18, "an empty one at each place, ahead of the first LETTER, behind the last one, too");
        RewrittenWords x = with("letters 2;rule b>;", "aa", "baa", "aba", "aab", "", "b");
        Check.due("ahead of the first", 1, x.far(0, 1));
        Check.due("between", 1, x.far(0, 2));
        Check.due("behind the last", 1, x.far(0, 3));
        Check.due("in an empty one", 1, x.far(4, 5));
        Check.due("and away", 1, x.far(5, 4));
        Check.due("none", -1, x.far(0, 4));
    }

    private static void farMissing() {
        Check.promise(18, "0: they are alike; NONE: none. NoSuchElementException: no such PLACES");
        RewrittenWords x = with("letters 2;", "ab", "ab", "ba");
        Check.due("alike", 0, x.far(0, 1));
        Check.due("itself", 0, x.far(5, 5));
        Check.due("none", -1, x.far(0, 2));
        Check.due("none", -1, x.far(0, 5));
        for (int place : NO_PLACES) {
            Check.missing("one " + place, () -> Scenes.full().far(place, 0));
            Check.missing("other " + place, () -> Scenes.full().far(0, place));
        }
    }

    private static void compareEdges() {
        Check.promise(19, "whose WEIGHT is more, of like ones that which, at the first place at which they are unlike, "
                + "has the LETTER that is later in ORDER");
        RewrittenWords x = with("letters 3;weigh c 9;order cba;", "", "a", "b", "aaaaaaaaa", "c", "bbbbbbbbb");
        int[][] want = {{0, 0, 0}, {0, 1, -1}, {1, 0, 1}, {1, 2, 1}, {2, 1, -1}, {3, 4, 1}, {4, 3, -1}, {4, 5, -1},
            {5, 3, -1}, {4, 1, 1}};
        for (int[] pair : want) {
            Check.due(pair[0] + " with " + pair[1], pair[2], x.compare(pair[0], pair[1]));
        }
        x = with("letters 2;", "aaaaaaaaaaaaaaab", "aaaaaaaaaaaaaaaa", "baaaaaaaaaaaaaaa", "abbbbbbbbbbbbbbb");
        Check.due("unlike at the last of 16", 1, x.compare(0, 1));
        Check.due("unlike at the last of 16", -1, x.compare(1, 0));
        Check.due("unlike at the first", 1, x.compare(2, 3));
        Check.due("alike", 0, x.compare(3, 3));
    }

    private static void compareMissing() {
        Check.promise(19, "NoSuchElementException: no such PLACES");
        for (int place : NO_PLACES) {
            Check.missing("one " + place, () -> Scenes.full().compare(place, 0));
            Check.missing("other " + place, () -> Scenes.full().compare(0, place));
            Check.missing("both " + place, () -> Scenes.full().compare(place, place));
        }
    }
}

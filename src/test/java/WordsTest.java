/** Promises 8 to 19: words in places, their steps, runs, reach, meet, far, compare. */
public final class WordsTest {
    public static void main(String[] args) {
        telling();
        ofAWord();
        reachOfAWord();
        steps();
        making();
        runs();
        runsThatEndLate();
        going();
        taking();
        meeting();
        far();
        comparing();
        Check.end("WordsTest");
    }

    private static void telling() {
        RewrittenWords x = Check.with("letters 3;rule a>b;");
        Check.due("tell", 4, Check.tell(x, 5, "abca"));
        Check.due("told", "abca", Check.word(x, 5));
        Check.due("tape", 0, x.count(3));
        Check.due("an act", 1, x.count(2));
        Check.due("16", 16, Check.tell(x, 0, "abcabcabcabcabca"));
        Check.due("16", "abcabcabcabcabca", Check.word(x, 0));
        Check.due("17", -1, Check.tell(x, 0, "abcabcabcabcabcab"));
        Check.due("17: the tape is empty", 0, x.count(3));
        Check.due("no letter", -1, Check.tell(x, 0, "abd"));
        Check.due("no letter: the tape is empty", 0, x.count(3));
        Check.due("a blank", -1, Check.tell(x, 0, "a b"));
        Check.due("a capital", -1, Check.tell(x, 0, "A"));
        Check.due("nothing else changes", "abcabcabcabcabca", Check.word(x, 0));
        Check.due("no acts", 2, x.count(2));
        Check.feed(x, "ab");
        Check.refused("place 6", () -> x.tell(6, 1));
        Check.refused("place -1", () -> x.tell(-1, 1));
        Check.refused("n 21", () -> x.tell(0, 21));
        Check.refused("n -1", () -> x.tell(0, -1));
        Check.due("nothing changes", 20, x.count(3));
        Check.due("bytes behind n are gone", 1, x.tell(0, 1));
        Check.due("bytes behind n are gone", 0, x.count(3));
        Check.due("empty", 0, x.tell(5, 0));
        Check.due("empty", "", Check.word(x, 5));
        Check.tell(x, 0, "aa");
        x.make(0, 0);
        Check.tell(x, 0, "ab");
        Check.due("a derivation begins", 0, x.word(0, 8));
        Check.missing("at place 6", () -> x.at(6, 0));
        Check.missing("at place -1", () -> x.at(-1, 0));
        Check.missing("at -1", () -> x.at(0, -1));
        Check.due("at the last one", 1, x.at(0, 1));
        Check.due("behind the last one", -1, x.at(0, 2));
    }

    private static void ofAWord() {
        RewrittenWords x = Check.with("letters 2;rule ab>b;rule b>aa;weigh b 4;");
        Check.tell(x, 0, "abab");
        Check.due("letters", 4, x.word(0, 0));
        Check.due("weight", 10, x.word(0, 1));
        Check.due("steps", 4, x.word(0, 2));
        Check.due("normal", 0, x.word(0, 3));
        Check.due("derivation", 0, x.word(0, 8));
        Check.due("rounds", 0, x.word(0, 9));
        Check.tell(x, 1, "aaa");
        Check.due("normal", 1, x.word(1, 3));
        Check.due("steps of a normal one", 0, x.word(1, 2));
        Check.due("end of a normal one", 0, x.word(1, 6));
        // a step that would make 17 letters is none
        Check.tell(x, 2, "baaaaaaaaaaaaaaa");
        Check.due("16 letters: no step", 0, x.word(2, 2));
        Check.due("16 letters: normal", 1, x.word(2, 3));
        Check.tell(x, 2, "baaaaaaaaaaaaaa");
        Check.due("15 letters: a step", 1, x.word(2, 2));
        Check.missing("place 6", () -> x.word(6, 0));
        Check.missing("place -1", () -> x.word(-1, 0));
        Check.missing("what 10", () -> x.word(0, 10));
        Check.missing("what -1", () -> x.word(0, -1));
    }

    private static void reachOfAWord() {
        RewrittenWords x = Check.with("letters 3;rule a>b;rule b>a;rule ab>c;");
        // steps of ab: bb by a>b, c by ab>c at 0, aa by b>a at 1; bb then makes ab, ba
        Check.tell(x, 0, "ab");
        Check.due("reach", 5, x.word(0, 4));
        Check.due("normal ones", 1, x.word(0, 5));
        Check.due("end", 1, x.word(0, 6));
        Check.due("loop", 2, x.word(0, 7));
        int[] came = {0, 1, 1, 1, 2};
        String[] words = {"ab", "bb", "c", "aa", "ba"};
        for (int k = 0; k < came.length; k++) {
            int word = k;
            Check.due("came", came[k], x.came(0, word));
            x.take(1, 0, k);
            Check.due("word " + k + " of reach", words[k], Check.word(x, 1));
        }
        Check.missing("came 5", () -> x.came(0, 5));
        Check.missing("came -1", () -> x.came(0, -1));
        Check.missing("came of place 6", () -> x.came(6, 0));
        Check.missing("came of place -1", () -> x.came(-1, 0));
        Check.system(x, "letters 3;rule a>b;rule b>c;rule c>a;");
        Check.tell(x, 0, "a");
        Check.due("loop of three", 3, x.word(0, 7));
        Check.due("no end", -1, x.word(0, 6));
        Check.due("no normal ones", 0, x.word(0, 5));
        Check.system(x, "letters 2;rule a>aa;rule a>b;");
        Check.tell(x, 0, "a");
        Check.due("came at once", 1, x.came(0, 2));
        Check.due("200 at most", 200, x.word(0, 4));
        Check.due("no loop", -1, x.word(0, 7));
        Check.due("end", 1, x.word(0, 6));
        Check.missing("came 200", () -> x.came(0, 200));
        // of the 256 words of 8 letters only 200 come, by up to 5 steps: bbbbbbbb isn't there
        Check.system(x, "letters 2;rule a>b;");
        Check.tell(x, 0, "aaaaaaaa");
        Check.due("200 of 256", 200, x.word(0, 4));
        Check.due("the last one came by", 5, x.came(0, 199));
        Check.due("no normal one came", 0, x.word(0, 5));
        Check.due("so no end", -1, x.word(0, 6));
        Check.tell(x, 0, "aaaaaaa");
        Check.due("128", 128, x.word(0, 4));
        Check.due("end", 7, x.word(0, 6));
    }

    private static void steps() {
        RewrittenWords x = Check.with("letters 2;rule b>a;rule ab>b;rule a>;");
        Check.tell(x, 0, "aab");
        // a at 0, ab at 1 by rule 1, a at 1 by rule 2, b at 2
        int[][] want = {{0, 2}, {1, 1}, {1, 2}, {2, 0}};
        for (int k = 0; k < want.length; k++) {
            Check.due("where", want[k][0], x.step(0, k, 0));
            Check.due("rule", want[k][1], x.step(0, k, 1));
        }
        Check.missing("step 4", () -> x.step(0, 4, 0));
        Check.missing("step -1", () -> x.step(0, -1, 0));
        Check.missing("what 2", () -> x.step(0, 0, 2));
        Check.missing("what -1", () -> x.step(0, 0, -1));
        Check.missing("place 6", () -> x.step(6, 0, 0));
        Check.missing("place -1", () -> x.step(-1, 0, 0));
    }

    private static void making() {
        RewrittenWords x = Check.with("letters 2;rule a>b;rule b>a;rule ab>;");
        Check.tell(x, 0, "aab");
        Check.due("make", 1, x.make(0, 2));
        Check.due("made", "a", Check.word(x, 0));
        Check.due("an act", 2, x.count(2));
        Check.due("no such step", -1, x.make(0, 1));
        Check.due("no such step", -1, x.make(0, -1));
        Check.missing("place 6", () -> x.make(6, 0));
        Check.missing("place -1", () -> x.make(-1, 0));
        Check.due("nothing changes", 2, x.count(2));
        for (int k = 1; k < 40; k++) {
            Check.due("make", 1, x.make(0, 0));
        }
        Check.due("40", 40, x.word(0, 8));
        Check.due("no 41st", -1, x.make(0, 0));
        Check.due("no 41st", 40, x.word(0, 8));
        Check.due("the word", "b", Check.word(x, 0));
    }

    private static void runs() {
        RewrittenWords x = Check.with("letters 3;rule ab>c;rule ba>;");
        Check.tell(x, 0, "abab");
        run(x, 0, 0, "0 2 2");
        run(x, 0, 1, "0 2 2");
        run(x, 0, 2, "0 2 1");
        Check.due("nothing stays", "abab", Check.word(x, 0));
        Check.due("nothing stays", 1, x.count(2));
        run(x, 1, 0, "0 0 0");
        Check.missing("place 6", () -> x.run(6, 0, 0));
        Check.missing("place -1 ahead of way", () -> x.run(-1, 7, 0));
        Check.missing("what 3", () -> x.run(0, 0, 3));
        Check.missing("what -1 ahead of way", () -> x.run(0, -1, -1));
        Check.refused("way 3", () -> x.run(0, 3, 0));
        Check.refused("way -1", () -> x.run(0, -1, 0));
        // ways differ: the first step, the last one, the least word
        Check.system(x, "letters 3;rule a>b;rule a>;rule a>c;order bca;");
        Check.tell(x, 0, "aca");
        x.go(0, 0);
        Check.due("way 0", "bcb", Check.word(x, 0));
        Check.tell(x, 0, "aca");
        x.go(0, 1);
        Check.due("way 1", "ccc", Check.word(x, 0));
        Check.tell(x, 0, "aca");
        x.go(0, 2);
        Check.due("way 2", "c", Check.word(x, 0));
        // of several steps behind which it is the least the first one
        Check.system(x, "letters 2;rule aa>a;rule a>b;weigh a 2;");
        Check.tell(x, 0, "aaa");
        x.go(0, 2);
        Check.due("way 2, the first one", 0, x.made(0, 0, 0));
        Check.due("way 2, the first one", 0, x.made(0, 0, 1));
    }

    private static void run(RewrittenWords x, int place, int way, String want) {
        Check.due("run by " + way, want, x.run(place, way, 0) + " " + x.run(place, way, 1) + " "
                + x.run(place, way, 2));
    }

    private static void runsThatEndLate() {
        RewrittenWords x = Check.with("letters 2;rule a>b;rule b>a;");
        Check.tell(x, 0, "a");
        run(x, 0, 0, "1 2 1");
        x.make(0, 0);
        // what it was ahead of the run does not count
        run(x, 0, 0, "1 2 1");
        // each b goes behind each a: 8 times 8 steps are too many, 6 times 10 just as many as can be
        Check.system(x, "letters 2;rule ba>ab;");
        Check.tell(x, 0, "bbbbbbbbaaaaaaaa");
        run(x, 0, 0, "2 60 16");
        Check.tell(x, 0, "bbbbbbbaaaaaaaa");
        run(x, 0, 0, "0 56 15");
        Check.tell(x, 0, "bbbbbbaaaaaaaaaa");
        run(x, 0, 1, "0 60 16");
        Check.due("too many", -1, x.go(0, 0));
        // the word that it began with comes again
        Check.system(x, "letters 5;rule aa>b;rule b>c;rule c>d;rule d>e;rule e>aa;");
        Check.tell(x, 0, "aa");
        run(x, 0, 0, "1 5 2");
        Check.system(x, "letters 2;rule a>aa;");
        Check.tell(x, 0, "a");
        run(x, 0, 0, "0 15 16");
        Check.due("no step at 16", 15, x.word(0, 6));
    }

    private static void going() {
        RewrittenWords x = Check.with("letters 2;rule ba>ab;");
        Check.tell(x, 0, "bbbbaaaa");
        Check.due("go", 16, x.go(0, 0));
        Check.due("gone", "aaaabbbb", Check.word(x, 0));
        Check.due("steps", 16, x.word(0, 8));
        Check.due("an act", 2, x.count(2));
        Check.due("nothing to do", 0, x.go(0, 1));
        Check.due("an act all the same", 3, x.count(2));
        Check.tell(x, 1, "bbbbbbbaaaaaa");
        Check.due("42 steps", -1, x.go(1, 0));
        Check.due("42 steps: nothing changes", "bbbbbbbaaaaaa", Check.word(x, 1));
        Check.due("42 steps: no act", 4, x.count(2));
        x.make(1, 0);
        x.make(1, 0);
        Check.due("40 left, 38 can be made", -1, x.go(1, 0));
        Check.tell(x, 2, "bbbbbaaaaaaaa");
        Check.due("just 40", 40, x.go(2, 1));
        Check.missing("place 6", () -> x.go(6, 0));
        Check.missing("place -1 ahead of way", () -> x.go(-1, 5));
        Check.refused("way 3", () -> x.go(0, 3));
        Check.refused("way -1", () -> x.go(0, -1));
    }

    private static void taking() {
        RewrittenWords x = Check.with("letters 3;rule ab>c;rule ba>;");
        Check.tell(x, 4, "abab");
        Check.due("take", 2, x.take(5, 4, 4));
        Check.due("an act", 2, x.count(2));
        Check.due("taken", "cc", Check.word(x, 5));
        Check.due("from stays", "abab", Check.word(x, 4));
        x.make(4, 0);
        Check.due("its own", 2, x.take(4, 4, 1));
        Check.due("told anew", 0, x.word(4, 8));
        Check.missing("no such word", () -> x.take(0, 5, 1));
        Check.missing("no such word", () -> x.take(0, 5, -1));
        Check.missing("no such place", () -> x.take(6, 5, 0));
        Check.missing("no such place", () -> x.take(0, 6, 0));
        Check.missing("no such place", () -> x.take(-1, 0, 0));
        Check.missing("no such place", () -> x.take(0, -1, 0));
        Check.due("no acts", 4, x.count(2));
    }

    private static void meeting() {
        RewrittenWords x = Check.with("letters 3;rule a>b;rule a>c;rule c>b;");
        Check.tell(x, 0, "a");
        Check.tell(x, 1, "c");
        // reach of a: a b c; of c: c b
        Check.due("in the first", 1, x.meet(0, 1, 0));
        Check.due("in the second", 1, x.meet(0, 1, 1));
        Check.due("in the first", 0, x.meet(1, 0, 0));
        Check.due("in the second", 2, x.meet(1, 0, 1));
        Check.due("with itself", 0, x.meet(0, 0, 1));
        Check.tell(x, 2, "bb");
        Check.due("none", -1, x.meet(0, 2, 0));
        Check.due("none", -1, x.meet(0, 2, 1));
        Check.missing("what 2", () -> x.meet(0, 1, 2));
        Check.missing("what -1", () -> x.meet(0, 1, -1));
        Check.missing("place 6", () -> x.meet(6, 0, 0));
        Check.missing("place -1", () -> x.meet(0, -1, 0));
    }

    private static void far() {
        RewrittenWords x = Check.with("letters 3;rule ab>c;rule ba>;");
        Check.tell(x, 0, "cc");
        Check.tell(x, 1, "abab");
        Check.tell(x, 2, "");
        Check.tell(x, 3, "c");
        Check.due("alike", 0, x.far(0, 0));
        Check.due("steps back", 2, x.far(0, 1));
        Check.due("steps", 2, x.far(1, 0));
        Check.due("nothing makes c of nothing", -1, x.far(2, 3));
        Check.tell(x, 4, "ba");
        Check.due("an empty right", 1, x.far(2, 4));
        Check.tell(x, 4, "cba");
        Check.due("behind the last one", 1, x.far(3, 4));
        Check.tell(x, 4, "bac");
        Check.due("ahead of the first one", 1, x.far(3, 4));
        Check.missing("place 6", () -> x.far(6, 0));
        Check.missing("place -1", () -> x.far(0, -1));
        Check.system(x, "letters 3;rule a>b;rule c>b;");
        Check.tell(x, 0, "a");
        Check.tell(x, 1, "c");
        Check.tell(x, 2, "bb");
        Check.due("down and up", 2, x.far(0, 1));
        Check.due("none", -1, x.far(0, 2));
        Check.system(x, "letters 2;rule a>b;");
        Check.tell(x, 0, "aaaaaaaa");
        Check.tell(x, 1, "bbbbbbbb");
        Check.due("more than 200 words", -1, x.far(0, 1));
        Check.tell(x, 0, "aaaaaaa");
        Check.tell(x, 1, "bbbbbbb");
        Check.due("128 words", 7, x.far(1, 0));
        Check.system(x, "letters 2;rule a>bb;");
        Check.tell(x, 0, "bbbbbbbbbbbbbbbb");
        Check.tell(x, 1, "abbbbbbbbbbbba");
        Check.due("back from 16", 2, x.far(0, 1));
        Check.due("on to 16", 2, x.far(1, 0));
        Check.tell(x, 0, "bbbbbbbbbbbbbbba");
        Check.tell(x, 1, "bbbbbbbbbbbbbaa");
        Check.due("not beyond 16: only back", 1, x.far(0, 1));
        Check.system(x, "letters 2;rule bb>a;");
        Check.tell(x, 0, "baaaaaaaaaaaaaaa");
        Check.tell(x, 1, "aaaaaaaaaaaaaaab");
        Check.due("steps back not beyond 16, either", -1, x.far(0, 1));
    }

    private static void comparing() {
        RewrittenWords x = Check.with("letters 3;weigh a 2;order cba;");
        compare(x, "aa", "bbb", 1);
        compare(x, "a", "bb", 1);
        compare(x, "b", "bb", -1);
        compare(x, "bb", "cc", 1);
        compare(x, "bcb", "bbc", -1);
        compare(x, "abc", "abc", 0);
        compare(x, "", "", 0);
        compare(x, "", "c", -1);
        Check.missing("place 6", () -> x.compare(6, 0));
        Check.missing("place 6", () -> x.compare(0, 6));
        Check.missing("place -1", () -> x.compare(0, -1));
        Check.missing("place -1", () -> x.compare(-1, 0));
    }

    private static void compare(RewrittenWords x, String one, String other, int want) {
        Check.tell(x, 0, one);
        Check.tell(x, 1, other);
        Check.due(one + " with " + other, want, x.compare(0, 1));
        Check.due(other + " with " + one, -want, x.compare(1, 0));
    }
}

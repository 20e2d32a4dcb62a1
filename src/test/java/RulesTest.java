/** Promises 20 to 24 and 27 to 29: overlaps, falling, closing, tidying, constants, heads, kin, free words. */
public final class RulesTest {
    public static void main(String[] args) {
        overlaps();
        overlapsClose();
        overlapsOfLongRules();
        falling();
        closing();
        closingIsBounded();
        tidying();
        constants();
        heads();
        kin();
        free();
        Check.end("RulesTest");
    }

    /** i j s letters closes, of each OVERLAP. */
    private static String overlapsOf(RewrittenWords x) {
        StringBuilder row = new StringBuilder();
        for (int k = 0; k < x.count(4); k++) {
            for (int what = 0; what < 5; what++) {
                row.append(x.overlap(k, what));
            }
            row.append(' ');
        }
        return row.toString();
    }

    private static void overlaps() {
        RewrittenWords x = Check.with("letters 3;rule abc>a;rule b>c;rule ab>b;");
        Check.due("asked at once", 2, x.overlap(2, 0));
        // b inside of abc, ab ahead of abc (only with the lower rule first), b at the end of ab
        Check.due("overlaps", "01130 02030 21120 ", overlapsOf(x));
        Check.missing("overlap 3", () -> x.overlap(3, 0));
        Check.missing("overlap -1", () -> x.overlap(-1, 0));
        Check.missing("what 5", () -> x.overlap(0, 5));
        Check.missing("what -1", () -> x.overlap(0, -1));
        Check.system(x, "letters 2;rule aa>b;");
        Check.due("with itself", "00130 ", overlapsOf(x));
        Check.system(x, "letters 2;rule aaa>b;rule ba>b;");
        Check.due("with itself at two shifts", "00140 00250 10140 ", overlapsOf(x));
        Check.system(x, "letters 2;rule aba>b;rule bab>a;");
        Check.due("by i, then j", "00250 01140 10140 11250 ", overlapsOf(x));
        Check.system(x, "letters 1;");
        Check.due("none", 0, x.count(4));
        Check.missing("none", () -> x.overlap(0, 0));
    }

    private static void overlapsClose() {
        RewrittenWords x = Check.with("letters 2;rule a>b;rule a>b;rule ba>bb;");
        // a by both: b; ba: bb by all
        Check.due("close", "01011 20121 21121 ", overlapsOf(x));
        Check.due("none is open", 0, x.count(5));
        Check.system(x, "letters 2;rule aa>b;rule ba>ab;");
        // aaa: ba>ab, ab; baa: bb, aba>aab>bb
        Check.due("close by runs", "00131 10131 ", overlapsOf(x));
        Check.system(x, "letters 3;rule a>b;rule a>c;rule b>c;");
        Check.due("ends of runs", "01011 ", overlapsOf(x));
        Check.system(x, "letters 3;rule a>b;rule a>c;rule b>c;rule c>b;");
        // from b: c, b again; from c: b, c again: two ends
        Check.due("runs that go round end in two words", "01010 ", overlapsOf(x));
    }

    private static void overlapsOfLongRules() {
        RewrittenWords x = Check.with("letters 2;weigh b 2;rule bb>baa;");
        Check.due("ten come", 10, x.close(10));
        Check.due("rule 6", "baaaaaaaaaaaab>baaaaaaaaaaaaaa", Check.rule(x, 6));
        Check.due("rule 7, whose run was stopped by 16 letters", "baaaaaaaaaaaabaa>baaaaaaaaaaaaaab",
                Check.rule(x, 7));
        // 4 more would be words of 16 letters that grow by one of both rules: no steps
        Check.due("both are steps", 28, x.count(4));
        Check.system(x, "letters 3;weigh b 5;weigh c 7;rule cbbc>;");
        Check.due("nine come", 9, x.close(10));
        // 9 more would be words of more than 16 letters
        Check.due("words of 16 letters at most", 53, x.count(4));
        for (int k = 0; k < 53; k++) {
            int overlap = k;
            Check.due("16 letters at most", true, () -> x.overlap(overlap, 3) <= 16);
        }
        Check.due("all close", 0, x.count(5));
    }

    private static void falling() {
        RewrittenWords x = Check.with("letters 3;weigh c 3;order bac;rule c>ab;rule ab>c;rule ba>ab;rule ab>ba;"
                + "rule cb>ac;rule a>;");
        boolean[] want = {true, false, false, true, true, true};
        for (int rule = 0; rule < 6; rule++) {
            Check.due("falls " + rule, want[rule], x.falls(rule));
        }
        Check.due("count", 4, x.count(6));
        Check.missing("no such rule", () -> x.falls(6));
        Check.missing("no such rule", () -> x.falls(-1));
    }

    private static void closing() {
        RewrittenWords x = Check.with("letters 3;rule ab>c;rule ba>;");
        Check.refused("close(0)", () -> x.close(0));
        Check.refused("close(11)", () -> x.close(11));
        Check.refused("close(-1)", () -> x.close(-1));
        // aba: ca, a; bab: b, bc; the lesser word first: aba
        Check.due("close by 1", 1, x.close(1));
        Check.due("an act", 1, x.count(2));
        Check.due("a rule more", "ab>c,ba>,ca>a/a1b1c1", Check.say(x));
        Check.due("on", 2, x.close(10));
        Check.due("closed", "ab>c,ba>,ca>a,bc>b,cc>c/a1b1c1", Check.say(x));
        Check.due("closed", 0, x.count(5));
        Check.due("nothing more comes", 0, x.close(10));
        Check.due("an act all the same", 3, x.count(2));
        Check.system(x, "letters 2;rule a>b;rule b>a;");
        Check.due("it can't be", -1, x.close(1));
        Check.due("no act", 0, x.count(2));
        Check.refused("n ahead of that", () -> x.close(0));
        Check.system(x, "letters 3;order cab;rule ab>c;rule ba>;");
        // bab is below aba no more by its letters: a is ahead of b, so aba first again
        Check.due("by order", 1, x.close(1));
        Check.due("by order", "ca>a", Check.rule(x, 2));
        Check.system(x, "letters 3;order cba;rule ab>c;rule ba>;");
        Check.due("by order, b ahead of a", 1, x.close(1));
        Check.due("by order, b ahead of a", "bc>b", Check.rule(x, 2));
        Check.system(x, "letters 4;rule a>b;rule a>c;rule a>d;weigh a 2;");
        // of several with the same word the first: b and c
        Check.due("the first one", 1, x.close(1));
        Check.due("the first one", "c>b", Check.rule(x, 3));
        Check.tell(x, 0, "aa");
        x.make(0, 0);
        x.close(1);
        Check.due("derivations stay", 1, x.word(0, 8));
    }

    private static void closingIsBounded() {
        RewrittenWords x = Check.with("letters 3;weigh b 6;weigh c 9;rule cc>baa;rule bc>aa;rule abcb>bca;");
        Check.due("12 rules at most", 9, x.close(10));
        Check.due("12 rules at most", 12, x.count(1));
        Check.due("not closed all the same", 1, x.count(5));
        Check.due("none comes any more", 0, x.close(10));
    }

    private static void tidying() {
        RewrittenWords x = Check.with("letters 3;rule aab>b;rule ab>a;rule cc>c;rule bbb>acc;");
        Check.tell(x, 0, "cc");
        x.go(0, 0);
        Check.tell(x, 2, "aabb");
        x.make(2, 0);
        Check.due("ahead of it", 6, x.count(4));
        Check.due("one goes", 1, x.tidy());
        Check.due("an act", 5, x.count(2));
        // ab with bbb at 1, cc with itself, bbb with itself at 1 and 2
        Check.due("overlaps of the rules of now", "02140 11131 22140 22250 ", overlapsOf(x));
        Check.due("tidy", "ab>a,cc>c,bbb>ac/a1b1c1", Check.say(x));
        Check.due("words stay", "bb", Check.word(x, 2));
        Check.due("derivations begin anew", 0, x.word(2, 8));
        Check.due("derivations begin anew", 0, x.word(0, 8));
        Check.tell(x, 0, "bbb");
        Check.due("reach by the rules of now", 2, x.word(0, 4));
        Check.system(x, "letters 2;rule a>;rule ba>b;");
        Check.due("that of rule 0 stands in it", 1, x.tidy());
        Check.due("that of rule 0 stands in it", "a>/a1b1", Check.say(x));
        Check.system(x, "letters 3;rule b>a;rule b>;rule ab>a;rule cb>;rule b>a;");
        Check.due("the first in whose left another's stands, again and again", 4, x.tidy());
        Check.due("of like ones the last stays", "b>a/a1b1c1", Check.say(x));
        Check.system(x, "letters 5;weigh a 3;rule a>bc;rule bc>e;rule db>c;rule eeee>da;");
        Check.tell(x, 0, "a");
        Check.due("reach of a ahead of it", 3, x.word(0, 4));
        Check.due("none goes", 0, x.tidy());
        Check.due("reach of a by the rights of now", 2, x.word(0, 4));
        Check.due("with the rights changed ahead", "a>e,bc>e,db>c,eeee>de/a3b1c1d1e1", Check.say(x));
        Check.system(x, "letters 2;rule ab>a;rule a>b;rule b>aa;");
        Check.due("it can't be", -1, x.tidy());
        Check.due("nothing changes", "ab>a,a>b,b>aa/a1b1", Check.say(x));
        Check.due("no act", 0, x.count(2));
        Check.due("new object", 0, new RewrittenWords().tidy());
    }

    private static void constants() {
        constant("letters 3;", 7);
        constant("letters 3;rule ab>ba;rule acb>bac;", 7);
        constant("letters 3;rule ab>b;", 6);
        constant("letters 3;rule a>b;rule b>a;", 4);
        constant("letters 3;rule ac>bc;rule c>ac;", 4);
        constant("letters 5;rule ae>e;rule bc>cc;", 24);
        constant("letters 1;rule a>;", 0);
    }

    private static void constant(String text, int want) {
        Check.due("constant of " + text, want, Check.with(text).constant());
    }

    private static void heads() {
        head("cb>b", "ab>a");
        head("abc>", "abc>");
        head("c>", "a>");
        head("bba>ab", "aab>ba");
        head("abb>ba", "aab>ba");
        head("b>cabc", "a>bacb");
        head("c>ba", "a>bc");
        head("abab>bab", "abab>aba");
        head("abca>b", "abca>b");
        head("abca>c", "abca>b");
        RewrittenWords x = Check.with("letters 3;rule cb>b;");
        Check.due("behind the last one", -1, x.head(0, false, 2));
        Check.due("behind the last one", -1, x.head(0, true, 1));
        Check.missing("no such rule", () -> x.head(1, false, 0));
        Check.missing("no such rule", () -> x.head(-1, false, 0));
        Check.missing("k below 0", () -> x.head(0, false, -1));
    }

    private static void head(String rule, String want) {
        Check.due("head of " + rule, want, Check.head(Check.with("letters 3;rule " + rule + ";"), 0));
    }

    private static void kin() {
        kin("ab>c", "ba>c", true);
        kin("ab>c", "cb>a", true);
        kin("a>b", "a>c", true);
        kin("a>b", "a>", false);
        kin("ab>c", "ab>a", false);
        kin("aab>b", "abb>a", true);
        kin("aab>b", "abb>b", false);
        kin("abc>ab", "abc>bc", true);
        kin("abc>ab", "abc>cb", false);
        kin("abc>ab", "cba>ba", true);
        kin("abc>ab", "cab>bc", false);
        kin("abc>ab", "cab>ca", true);
        kin("ab>ba", "ab>ba", true);
        kin("ab>b", "ba>b", true);
        kin("ab>", "b>ab", false);
        RewrittenWords x = Check.with("letters 2;rule a>b;");
        Check.due("to itself", true, x.areKin(0, 0));
        Check.missing("no such rule", () -> x.areKin(1, 0));
        Check.missing("no such rule", () -> x.areKin(0, 1));
        Check.missing("no such rule", () -> x.areKin(-1, 0));
        Check.missing("no such rule", () -> x.areKin(0, -1));
    }

    private static void kin(String one, String other, boolean want) {
        RewrittenWords x = Check.with("letters 3;rule " + one + ";rule " + other + ";");
        Check.due(one + " kin to " + other, want, x.areKin(0, 1));
        Check.due(other + " kin to " + one, want, x.areKin(1, 0));
    }

    private static void free() {
        free("letters 2;rule aa>;", "1 2 3 5 8 13 21 34 55 ");
        free("letters 2;rule ba>ab;", "1 2 3 4 5 6 7 8 9 ");
        free("letters 5;", "1 5 25 125 625 3125 15625 78125 390625 ");
        free("letters 3;rule a>;", "1 2 4 8 16 32 64 128 256 ");
        free("letters 2;rule abb>;rule b>;", "1 1 1 1 1 1 1 1 1 ");
        free("letters 1;rule aaaa>;", "1 1 1 1 0 0 0 0 0 ");
        free("letters 2;rule abab>;", "1 2 4 8 15 28 53 100 188 ");
        free("letters 1;rule a>;", "1 0 0 0 0 0 0 0 0 ");
        RewrittenWords x = new RewrittenWords();
        Check.refused("free(9)", () -> x.free(9));
        Check.refused("free(-1)", () -> x.free(-1));
        // rules that were added count, too; those of 9 letters and more stand nowhere
        Check.system(x, "letters 2;weigh b 2;rule bb>baa;");
        x.close(10);
        Check.due("free(8) of many rules", withoutEvenRows(), x.free(8));
    }

    /** Words of 8 letters a, b in which no two b's have an even number of a's, and no b, between them. */
    private static int withoutEvenRows() {
        int found = 0;
        for (int bits = 0; bits < 256; bits++) {
            String row = Integer.toBinaryString(256 + bits).substring(1);
            if (!row.matches(".*1(00)*1.*")) {
                found++;
            }
        }
        return found;
    }

    private static void free(String text, String want) {
        RewrittenWords x = Check.with(text);
        StringBuilder row = new StringBuilder();
        for (int n = 0; n <= 8; n++) {
            row.append(x.free(n)).append(' ');
        }
        Check.due("free of " + text, want, row.toString());
    }
}

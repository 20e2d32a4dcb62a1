/** Promises 30 to 35: derivations, their canons, acts undone, all kept and brought back. */
public final class DerivationsTest {
    public static void main(String[] args) {
        madeSteps();
        standing();
        canonOfErased();
        longCanon();
        wrongAsks();
        oneDerivation();
        undoing();
        undoingTwenty();
        undoingSystems();
        images();
        Check.end("DerivationsTest");
    }

    /** Makes the STEP of a RULE at a place of the WORD. */
    private static void makeAt(RewrittenWords x, int place, int where, int rule) {
        for (int k = 0; k < x.word(place, 2); k++) {
            if (x.step(place, k, 0) == where && x.step(place, k, 1) == rule) {
                x.make(place, k);
                return;
            }
        }
        Check.due("a step at " + where + " by " + rule, "there", "none");
    }

    /** Of each STEP that was made where, rule, round, stands on, place in the canon. */
    private static String made(RewrittenWords x, int place) {
        StringBuilder row = new StringBuilder();
        for (int k = 0; k < x.word(place, 8); k++) {
            for (int what = 0; what < 5; what++) {
                row.append(x.made(place, k, what)).append(what < 4 ? "." : " ");
            }
        }
        return row.toString();
    }

    private static String canon(RewrittenWords x, int place) {
        StringBuilder row = new StringBuilder();
        for (int k = 0; k < x.word(place, 8); k++) {
            row.append(x.canon(place, k, 0)).append('.').append(x.canon(place, k, 1)).append(' ');
        }
        return row.toString();
    }

    private static void madeSteps() {
        RewrittenWords x = Check.with("letters 2;rule a>b;rule bb>a;");
        Check.tell(x, 1, "aaa");
        makeAt(x, 1, 2, 0);
        makeAt(x, 1, 1, 0);
        makeAt(x, 1, 1, 1);
        makeAt(x, 1, 0, 0);
        Check.due("word", "ba", Check.word(x, 1));
        Check.due("made", "2.0.1.0.2 1.0.1.0.1 1.1.2.2.3 0.0.1.0.0 ", made(x, 1));
        Check.due("canon", "0.0 1.0 2.0 1.1 ", canon(x, 1));
        Check.due("steps", 4, x.word(1, 8));
        Check.due("rounds", 2, x.word(1, 9));
    }

    private static void standing() {
        RewrittenWords x = Check.with("letters 2;rule a>bb;rule bb>a;rule bbb>a;");
        Check.tell(x, 0, "a");
        makeAt(x, 0, 0, 0);
        makeAt(x, 0, 0, 1);
        makeAt(x, 0, 0, 0);
        Check.due("two letters of one step: it stands on one", "0.0.1.0.0 0.1.2.1.1 0.0.3.1.2 ", made(x, 0));
        Check.due("rounds", 3, x.word(0, 9));
        Check.tell(x, 0, "aab");
        makeAt(x, 0, 0, 0);
        makeAt(x, 0, 2, 0);
        // bbbbb: the last three are one that was made ahead, one more, and one that was told
        makeAt(x, 0, 2, 2);
        makeAt(x, 0, 0, 1);
        Check.due("told letters don't count", "0.0.1.0.0 2.0.1.0.2 2.2.2.1.3 0.1.2.1.1 ", made(x, 0));
        Check.due("canon", "0.0 0.1 1.0 1.2 ", canon(x, 0));
    }

    private static void canonOfErased() {
        RewrittenWords x = Check.with("letters 3;rule b>;rule ac>a;");
        Check.tell(x, 0, "abc");
        makeAt(x, 0, 1, 0);
        makeAt(x, 0, 0, 1);
        Check.due("what was erased made no letter", "1.0.1.0.0 0.1.1.0.1 ", made(x, 0));
        Check.due("but it had to go first", "1.0 0.1 ", canon(x, 0));
        Check.due("all in one round", 1, x.word(0, 9));
        Check.due("of another place", 0, x.word(1, 9));
        Check.system(x, "letters 3;rule a>bb;rule cbb>a;");
        Check.tell(x, 0, "ca");
        makeAt(x, 0, 1, 0);
        makeAt(x, 0, 0, 1);
        Check.due("not ahead of its letters", "1.0 0.1 ", canon(x, 0));
    }

    private static void longCanon() {
        RewrittenWords x = Check.with("letters 3;rule a>bbbb;rule cccc>c;");
        Check.tell(x, 0, "aaaacccccccccccc");
        makeAt(x, 0, 4, 1);
        makeAt(x, 0, 0, 0);
        makeAt(x, 0, 7, 1);
        makeAt(x, 0, 4, 0);
        makeAt(x, 0, 10, 1);
        makeAt(x, 0, 8, 0);
        Check.due("word", "bbbbbbbbbbbbaccc", Check.word(x, 0));
        Check.due("canon, by a row of 25", "0.0 4.0 8.0 13.1 13.1 13.1 ", canon(x, 0));
        Check.due("made", "4.1.1.0.3 0.0.1.0.0 7.1.2.1.4 4.0.1.0.1 10.1.3.1.5 8.0.1.0.2 ", made(x, 0));
    }

    private static void wrongAsks() {
        RewrittenWords x = Check.with("letters 2;rule a>b;");
        Check.tell(x, 0, "aa");
        x.make(0, 1);
        Check.due("where", 1, x.made(0, 0, 0));
        Check.missing("made 1", () -> x.made(0, 1, 0));
        Check.missing("made -1", () -> x.made(0, -1, 0));
        Check.missing("made what 5", () -> x.made(0, 0, 5));
        Check.missing("made what -1", () -> x.made(0, 0, -1));
        Check.missing("made at 6", () -> x.made(6, 0, 0));
        Check.missing("made at -1", () -> x.made(-1, 0, 0));
        Check.missing("made without steps", () -> x.made(1, 0, 0));
        Check.missing("canon 1", () -> x.canon(0, 1, 0));
        Check.missing("canon -1", () -> x.canon(0, -1, 0));
        Check.missing("canon what 2", () -> x.canon(0, 0, 2));
        Check.missing("canon what -1", () -> x.canon(0, 0, -1));
        Check.missing("canon at 6", () -> x.canon(6, 0, 0));
        Check.missing("canon at -1", () -> x.canon(-1, 0, 0));
        Check.missing("areOne at 6", () -> x.areOne(6, 0));
        Check.missing("areOne at 6", () -> x.areOne(0, 6));
        Check.missing("areOne at -1", () -> x.areOne(-1, 0));
        Check.missing("areOne at -1", () -> x.areOne(0, -1));
    }

    private static void oneDerivation() {
        RewrittenWords x = Check.with("letters 3;rule a>b;rule a>c;rule b>a;");
        Check.due("empty ones", true, x.areOne(0, 5));
        Check.tell(x, 0, "aa");
        Check.tell(x, 1, "aa");
        Check.due("words without steps", true, x.areOne(0, 1));
        makeAt(x, 0, 0, 0);
        Check.due("one has a step more", false, x.areOne(0, 1));
        makeAt(x, 0, 1, 1);
        makeAt(x, 1, 1, 1);
        makeAt(x, 1, 0, 0);
        Check.due("but for the order of steps", true, x.areOne(0, 1));
        Check.due("to itself", true, x.areOne(0, 0));
        Check.tell(x, 1, "aa");
        makeAt(x, 1, 0, 0);
        makeAt(x, 1, 1, 0);
        Check.due("another rule", false, x.areOne(0, 1));
        Check.tell(x, 1, "aa");
        Check.tell(x, 2, "aa");
        makeAt(x, 1, 0, 0);
        makeAt(x, 2, 1, 0);
        Check.due("another place", false, x.areOne(1, 2));
        Check.tell(x, 2, "ab");
        makeAt(x, 2, 0, 0);
        Check.due("another word", false, x.areOne(1, 2));
        Check.tell(x, 1, "a");
        Check.tell(x, 2, "a");
        makeAt(x, 1, 0, 0);
        makeAt(x, 1, 0, 2);
        makeAt(x, 1, 0, 0);
        makeAt(x, 2, 0, 0);
        Check.due("one word at the end is not enough", false, x.areOne(1, 2));
    }

    private static void undoing() {
        RewrittenWords x = Check.with("letters 3;rule ab>c;rule ba>;");
        Check.due("nothing to undo", -1, x.undo());
        Check.tell(x, 0, "abab");
        x.make(0, 1);
        x.go(0, 0);
        x.take(0, 0, 0);
        Check.due("a run, then told anew", 0, x.word(0, 8));
        Check.tell(x, 1, "cc");
        Check.feed(x, "abc");
        x.close(10);
        x.tidy();
        Check.due("acts", 7, x.count(2));
        Check.due("tidied", 6, x.undo());
        Check.due("closed", 5, x.undo());
        Check.due("closed, undone", "ab>c,ba>/a1b1c1", Check.say(x));
        Check.due("told", 4, x.undo());
        Check.due("told, undone", "", Check.word(x, 1));
        Check.due("taken", 3, x.undo());
        Check.due("taken, undone: the derivation is there", 2, x.word(0, 8));
        Check.due("taken, undone: the word", "c", Check.word(x, 0));
        Check.due("a run", 2, x.undo());
        Check.due("a run, undone", "ab", Check.word(x, 0));
        Check.due("a run, undone", 1, x.word(0, 8));
        Check.due("a step", 1, x.undo());
        Check.due("a step, undone", "abab", Check.word(x, 0));
        Check.due("a step, undone", 0, x.word(0, 8));
        Check.due("told", 0, x.undo());
        Check.due("told, undone", "", Check.word(x, 0));
        Check.due("nothing to undo", -1, x.undo());
        Check.due("the tape stays", 20, x.count(3));
        Check.due("another act", 3, x.tell(0, 3));
        Check.due("can be undone", 0, x.undo());
    }

    private static void undoingTwenty() {
        RewrittenWords x = Check.with("letters 1;");
        for (int k = 1; k <= 25; k++) {
            Check.tell(x, 0, "aaaaaaaaaaaaaaaa".substring(0, k % 16));
        }
        for (int k = 24; k >= 5; k--) {
            Check.due("undo", k - 5, x.undo());
            Check.due("undone", k % 16, x.word(0, 0));
        }
        Check.due("20 at most", -1, x.undo());
        Check.due("nothing changes", 5, x.word(0, 0));
    }

    private static void undoingSystems() {
        RewrittenWords x = Check.with("letters 3;rule aab>b;rule ab>c;rule c>;rule bbb>ab;");
        Check.tell(x, 0, "aabb");
        x.make(0, 0);
        Check.tell(x, 1, "bbbb");
        x.tidy();
        Check.due("tidy: reach", 2, x.word(1, 4));
        Check.due("undo", 3, x.undo());
        Check.due("undone: reach by the rules of now", 6, x.word(1, 4));
        Check.due("undone: rules", "aab>b,ab>c,c>,bbb>ab/a1b1c1", Check.say(x));
        Check.due("undone: derivations", 1, x.word(0, 8));
        Check.due("undone: derivations", "bb", Check.word(x, 0));
        Check.due("undone: steps", "0.0.1.0.0 ", made(x, 0));
        int open = x.count(5);
        x.close(10);
        x.undo();
        Check.due("undone: overlaps", open, x.count(5));
        Check.due("undone: least weights", 1, x.letter(0, 2));
    }

    private static void images() {
        RewrittenWords x = Check.with("letters 3;rule ab>c;rule ba>;weigh a 2;order cba;");
        Check.due("nothing was kept", false, x.back());
        Check.tell(x, 0, "abab");
        x.make(0, 0);
        x.image();
        Check.due("acts stay", 2, x.count(2));
        Check.system(x, "letters 2;rule a>b;");
        Check.tell(x, 0, "bb");
        Check.feed(x, "ab");
        Check.due("back", true, x.back());
        Check.due("acts are gone", 0, x.count(2));
        Check.due("acts are gone", -1, x.undo());
        Check.due("the tape stays", 20, x.count(3));
        Check.due("the system", "ab>c,ba>/c1b1a2", Check.say(x));
        Check.due("the word", "cab", Check.word(x, 0));
        Check.due("the derivation", "0.0.1.0.0 ", made(x, 0));
        Check.due("the tape stays", 2, x.tell(1, 2));
        x.make(0, 0);
        Check.due("the image stays as it was", true, x.back());
        Check.due("the image stays as it was", "cab", Check.word(x, 0));
        Check.tell(x, 0, "c");
        x.image();
        Check.tell(x, 0, "b");
        x.undo();
        x.undo();
        Check.due("undone beyond the image", "cab", Check.word(x, 0));
        Check.due("in place of what was", true, x.back());
        Check.due("in place of what was", "c", Check.word(x, 0));
    }
}

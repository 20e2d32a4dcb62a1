/** The boundary cases of promises 30 to 35, and an object's 512 calls: a test for each sentence that names one. */
public final class BoundsOfDerivationsTest {
    private static final int LEAST = Integer.MIN_VALUE;
    private static final int MOST = Integer.MAX_VALUE;
    private static final int[] NO_PLACES = {-1, 6, LEAST, MOST};

    public static void main(String[] args) {
        madeMissing();
        madeOfForty();
        madeRounds();
        madeStandsOn();
        canonMissing();
        canonOfALongRow();
        canonOfErasers();
        oneWithoutSteps();
        oneOfForty();
        oneMissing();
        undoNone();
        undoTwenty();
        undoRound();
        undoEachKind();
        refusedCallsAreNoActs();
        imageInPlace();
        imageKeepsBounds();
        imageKeepsAllSteps();
        undoBringsAllSteps();
        undoBringsWhatWasTold();
        canonOfOneBehindAnother();
        imageOfANewObject();
        imageLeavesOut();
        backNothing();
        backAgain();
        calls512OfAll();
        calls512OfActs();
        calls512Refused();
        Check.promisesFrom(30, 35);
        Check.end("BoundsOfDerivationsTest");
    }

    private static RewrittenWords with(String system, String... words) {
        RewrittenWords x = Check.with(system);
        for (int place = 0; place < words.length; place++) {
            Check.tell(x, place, words[place]);
        }
        return x;
    }

    private static void makeAt(RewrittenWords x, int place, int where, int rule) {
        for (int k = 0; k < x.word(place, 2); k++) {
            if (x.step(place, k, 0) == where && x.step(place, k, 1) == rule) {
                x.make(place, k);
                return;
            }
        }
        Check.due("a step at " + where + " by " + rule, "there", "none");
    }

    private static void madeMissing() {
        Check.promise(30, "NoSuchElementException: no such PLACE, STEP, another what");
        RewrittenWords x = with("letters 2;rule a>b;", "aa");
        x.make(0, 1);
        Check.due("the only step", 1, x.made(0, 0, 0));
        int[] noSteps = {1, 39, 40, -1, LEAST, MOST};
        for (int what = 0; what <= 4; what++) {
            int of = what;
            for (int k : noSteps) {
                Check.missing("step " + k, () -> x.made(0, k, of));
            }
            for (int place : NO_PLACES) {
                Check.missing("place " + place, () -> x.made(place, 0, of));
            }
            Check.missing("without steps", () -> x.made(1, 0, of));
        }
        int[] wrong = {-1, 5, LEAST, MOST};
        for (int what : wrong) {
            Check.missing("what " + what, () -> x.made(0, 0, what));
            Check.changesNothingMissing("what " + what, Scenes::full, y -> y.made(1, 0, what));
        }
    }

    private static void madeOfForty() {
        Check.promise(30, "the STEPS made there since (40 at most)");
        RewrittenWords x = Scenes.withFortySteps();
        for (int k = 0; k < 40; k++) {
            Check.due("where " + k, 0, x.made(0, k, 0));
            Check.due("rule " + k, k % 2, x.made(0, k, 1));
            Check.due("round " + k, k + 1, x.made(0, k, 2));
            Check.due("stands on, " + k, k == 0 ? 0 : 1, x.made(0, k, 3));
            Check.due("in the canon, " + k, k, x.made(0, k, 4));
        }
        Check.missing("step 40", () -> x.made(0, 40, 0));
        Check.due("a 41st is not made", -1, x.make(0, 0));
        Check.missing("step 40", () -> x.made(0, 40, 0));
    }

    private static void madeRounds() {
        Check.promise(30, "1 more than the greatest of those on which it STANDS (1 without)");
        RewrittenWords x = with("letters 3;rule a>b;rule b>c;rule cb>a;rule aa>c;", "aaaa");
        makeAt(x, 0, 0, 0);
        makeAt(x, 0, 0, 1);
        makeAt(x, 0, 1, 0);
        makeAt(x, 0, 0, 2);
        makeAt(x, 0, 1, 3);
        int[] rounds = {1, 2, 1, 3, 1};
        for (int k = 0; k < rounds.length; k++) {
            Check.due("round of " + k, rounds[k], x.made(0, k, 2));
        }
        Check.due("the greatest", 3, x.word(0, 9));
    }

    private static void madeStandsOn() {
        Check.promise(30, "3 on how many STEPS it STANDS: an earlier one that made a LETTER that it took");
        RewrittenWords x = with("letters 3;rule a>b;rule bbbb>c;rule a>;rule a>bb;", "aaaa", "aaab", "abbb", "bbbb", "aa", "abbbb");
        x.go(0, 0);
        Check.due("four letters of four steps", 4, x.made(0, 4, 3));
        x.go(1, 0);
        Check.due("three of three steps, one told", 3, x.made(1, 3, 3));
        x.go(2, 0);
        Check.due("one of one step, three told", 1, x.made(2, 1, 3));
        x.go(3, 0);
        Check.due("all told", 0, x.made(3, 0, 3));
        makeAt(x, 4, 0, 3);
        makeAt(x, 4, 2, 3);
        makeAt(x, 4, 0, 1);
        Check.due("four letters of two steps", 2, x.made(4, 2, 3));
        makeAt(x, 5, 0, 2);
        makeAt(x, 5, 0, 1);
        Check.due("a step that made no letter", 0, x.made(5, 1, 3));
        Check.due("a step that made no letter", 1, x.made(5, 1, 2));
    }

    private static void canonMissing() {
        Check.promise(31, "NoSuchElementException: no such PLACE, STEP, another what");
        RewrittenWords x = with("letters 2;rule a>b;", "aa");
        x.make(0, 1);
        Check.due("the only step", 1, x.canon(0, 0, 0));
        int[] noSteps = {1, 39, 40, -1, LEAST, MOST};
        for (int k : noSteps) {
            Check.missing("step " + k, () -> x.canon(0, k, 0));
            Check.missing("step " + k, () -> x.canon(0, k, 1));
        }
        for (int place : NO_PLACES) {
            Check.missing("place " + place, () -> x.canon(place, 0, 0));
        }
        Check.missing("without steps", () -> x.canon(1, 0, 0));
        int[] wrong = {-1, 2, LEAST, MOST};
        for (int what : wrong) {
            Check.missing("what " + what, () -> x.canon(0, 0, what));
            Check.changesNothingMissing("what " + what, Scenes::full, y -> y.canon(1, 0, what));
        }
        RewrittenWords y = Scenes.withFortySteps();
        Check.due("the 40th", 1, y.canon(0, 39, 1));
        Check.missing("the 41st", () -> y.canon(0, 40, 0));
    }

    /** 22 STEPS that make three b's more each, 18 by turns that take four at the end for one. */
    private static RewrittenWords longRow() {
        RewrittenWords x = with("letters 2;rule a>abbb;rule bbbb>b;", "a");
        for (int k = 0; k < 5; k++) {
            makeAt(x, 0, 0, 0);
        }
        for (int k = 0; k < 35; k++) {
            // at 16 letters the first step can't be made; the last one is by the last four
            x.make(0, k % 2 == 0 ? x.word(0, 2) - 1 : 0);
        }
        return x;
    }

    private static void canonOfALongRow() {
        Check.promise(31, "whose first one is leftmost (however long the row becomes)");
        RewrittenWords x = longRow();
        Check.due("forty steps", 40, x.word(0, 8));
        Check.due("all letters", 13, x.word(0, 0));
        for (int k = 0; k < 22; k++) {
            Check.due("longer first, " + k, 0, x.canon(0, k, 0));
            Check.due("longer first, " + k, 0, x.canon(0, k, 1));
        }
        for (int k = 22; k < 40; k++) {
            Check.due("a row of 67, then by three less, " + k, 63 - 3 * (k - 22), x.canon(0, k, 0));
            Check.due("a row of 67, " + k, 1, x.canon(0, k, 1));
        }
        Check.due("made as the 6th, at 12", 12, x.made(0, 5, 0));
        Check.due("made as the 6th, in the canon the 23rd", 22, x.made(0, 5, 4));
        Check.due("it stands on the first two", 2, x.made(0, 5, 3));
        Check.due("its round", 3, x.made(0, 5, 2));
        Check.due("the last one's round", 20, x.made(0, 39, 2));
        Check.due("the last one stands on", 3, x.made(0, 39, 3));
        Check.due("the last one in the canon", 39, x.made(0, 39, 4));
        Check.due("rounds", 22, x.word(0, 9));
    }

    private static void canonOfErasers() {
        Check.promise(31, "whose LETTERS (the very ones that it took) are there side by side");
        RewrittenWords x = with("letters 3;rule b>;rule ac>;rule aa>;", "abc", "aabca");
        makeAt(x, 0, 1, 0);
        makeAt(x, 0, 0, 1);
        Check.due("not ahead of what lay between", 1, x.canon(0, 0, 0));
        Check.due("then at 0", 0, x.canon(0, 1, 0));
        makeAt(x, 1, 2, 0);
        makeAt(x, 1, 1, 1);
        makeAt(x, 1, 0, 2);
        Check.due("all erased", 0, x.word(1, 0));
        int[] where = {2, 1, 0};
        for (int k = 0; k < 3; k++) {
            Check.due("from the inside, " + k, where[k], x.canon(1, k, 0));
            Check.due("from the inside, " + k, k, x.canon(1, k, 1));
        }
        // the first letter is the last one there, the others are not made yet
        x = with("letters 3;rule a>bb;rule cbb>a;", "ca", "aca");
        makeAt(x, 0, 1, 0);
        makeAt(x, 0, 0, 1);
        Check.due("not ahead of its letters", 1, x.canon(0, 0, 0));
        Check.due("not ahead of its letters", 0, x.canon(0, 0, 1));
        Check.due("then at 0", 0, x.canon(0, 1, 0));
        // drawn behind another one, of which nothing stays
        makeAt(x, 1, 2, 0);
        makeAt(x, 1, 0, 0);
        Check.due("of another place", 0, x.canon(1, 0, 0));
        Check.due("of another place", 3, x.canon(1, 1, 0));
        Check.due("of the first again", 1, x.canon(0, 0, 0));
        // like letters are not the very ones: the second of both a's was taken first
        x = with("letters 2;rule a>b;rule ab>;", "aab");
        makeAt(x, 0, 1, 1);
        makeAt(x, 0, 0, 0);
        Check.due("0 by rule 0 first", 0, x.canon(0, 0, 1));
        Check.due("1 by rule 1 then", 1, x.canon(0, 1, 0));
    }

    private static void oneWithoutSteps() {
        Check.promise(32, "if they begin with one WORD and have one CANON");
        RewrittenWords x = with("letters 2;rule a>b;rule b>a;", "ab", "ab", "bb", "", "ab");
        Check.due("without steps", true, x.areOne(0, 1));
        Check.due("without steps, unlike", false, x.areOne(0, 2));
        Check.due("empty ones", true, x.areOne(3, 5));
        Check.due("empty and not", false, x.areOne(0, 3));
        Check.due("itself", true, x.areOne(2, 2));
        makeAt(x, 0, 0, 0);
        Check.due("one step more", false, x.areOne(0, 1));
        Check.due("one step more", false, x.areOne(1, 0));
        Check.due("one word now, but told another one", false, x.areOne(0, 2));
        makeAt(x, 1, 0, 0);
        Check.due("the same step", true, x.areOne(0, 1));
        makeAt(x, 4, 1, 1);
        Check.due("another step", false, x.areOne(0, 4));
    }

    private static void oneOfForty() {
        Check.promise(32, "(the same RULES at the same places, in a row)");
        RewrittenWords x = with("letters 3;rule a>b;rule b>a;rule a>c;rule b>c;", "aa", "aa");
        for (int k = 0; k < 19; k++) {
            makeAt(x, 0, 0, k % 2);
        }
        for (int k = 0; k < 20; k++) {
            makeAt(x, 0, 1, k % 2);
            makeAt(x, 1, 1, k % 2);
        }
        for (int k = 0; k < 19; k++) {
            makeAt(x, 1, 0, k % 2);
        }
        Check.due("39 in another order", true, x.areOne(0, 1));
        makeAt(x, 0, 1, 0);
        Check.due("one more", false, x.areOne(0, 1));
        makeAt(x, 1, 1, 0);
        Check.due("forty", true, x.areOne(0, 1));
        x.undo();
        makeAt(x, 1, 1, 2);
        Check.due("another rule as the 40th", false, x.areOne(0, 1));
    }

    private static void oneMissing() {
        Check.promise(32, "NoSuchElementException: no such PLACES");
        for (int place : NO_PLACES) {
            Check.missing("one " + place, () -> Scenes.full().areOne(place, 0));
            Check.missing("other " + place, () -> Scenes.full().areOne(0, place));
            Check.missing("both " + place, () -> Scenes.full().areOne(place, place));
        }
    }

    private static RewrittenWords withAllUndone() {
        RewrittenWords x = Scenes.full();
        for (int k = 0; k < 5; k++) {
            x.undo();
        }
        return x;
    }

    private static void undoNone() {
        Check.promise(33, "NONE: none was");
        Check.changesNothing("new", -1, RewrittenWords::new, RewrittenWords::undo);
        Check.changesNothing("all undone", -1, BoundsOfDerivationsTest::withAllUndone, RewrittenWords::undo);
        RewrittenWords x = Scenes.full();
        for (int k = 4; k >= 0; k--) {
            Check.due("how many are kept then", k, x.undo());
        }
        Check.due("none", -1, x.undo());
        Check.due("none again", -1, x.undo());
        Check.due("the tape stays", 40, x.count(3));
        Check.due("an act", 2, x.tell(0, 2));
        Check.due("is undone", 0, x.undo());
        x.tell(0, 0);
        Check.system(x, "letters 2;");
        Check.due("behind another system", -1, x.undo());
        x.tell(0, 0);
        x.back();
        Check.due("behind back", -1, x.undo());
    }

    private static void undoTwenty() {
        Check.promise(33, "the latest 20 are kept and UNDONE one by one, the latest first");
        for (int acts = 19; acts <= 22; acts++) {
            RewrittenWords x = Check.with("letters 1;rule aa>a;");
            String row = "";
            for (int k = 1; k <= acts; k++) {
                row = Scenes.times("a", k % 13);
                Check.tell(x, 0, row);
            }
            int kept = Math.min(20, acts);
            Check.due("kept", kept, x.count(2));
            for (int k = 1; k <= kept; k++) {
                Check.due(acts + " acts, undone " + k, kept - k, x.undo());
                Check.due(acts + " acts, undone " + k, (acts - k) % 13, x.word(0, 0));
            }
            Check.due("no more", -1, x.undo());
            Check.due("no more", (acts - kept) % 13, x.word(0, 0));
            Check.due("no more", 0, x.count(2));
        }
    }

    private static void undoRound() {
        Check.promise(33, "The latest ACT is UNDONE: how many are kept then");
        RewrittenWords x = Check.with("letters 1;");
        int[] lengths = new int[64];
        int acts = 0;
        int kept = 0;
        int[] made = {15, 9, 17, 20, 30, 1};
        int[] undone = {6, 9, 5, 19, 2, 20};
        for (int round = 0; round < made.length; round++) {
            for (int k = 0; k < made[round]; k++) {
                acts++;
                lengths[acts] = (lengths[acts - 1] + 5) % 16;
                Check.tell(x, 0, Scenes.times("a", lengths[acts]));
                kept = Math.min(20, kept + 1);
            }
            Check.due("kept", kept, x.count(2));
            for (int k = 0; k < undone[round]; k++) {
                if (kept == 0) {
                    Check.due("none", -1, x.undo());
                } else {
                    acts--;
                    kept--;
                    Check.due("kept then", kept, x.undo());
                }
                Check.due("as it was", lengths[acts], x.word(0, 0));
            }
        }
    }

    private static void undoEachKind() {
        Check.promise(33, "ACTS: a WORD told, a STEP, a RUN, a WORD taken, a SYSTEM CLOSED, TIDIED");
        Check.CallOf[] acts = {x -> x.tell(0, 3), x -> x.make(5, 0), x -> x.go(5, 1), x -> x.take(1, 0, 0),
            x -> x.close(3), x -> x.tidy(), x -> x.go(4, 0)};
        for (int k = 0; k < acts.length; k++) {
            RewrittenWords x = Scenes.full();
            Check.CallOf act = acts[k];
            Check.due("act " + k, true, (int) (Integer) act.answer(x) >= 0);
            Check.due("one more", 6, x.count(2));
            Check.due("undone", 5, x.undo());
            RewrittenWords y = Scenes.full();
            Check.due("act " + k + " changes", "", Look.difference(Look.withoutTape(y), Look.withoutTape(x)));
            RewrittenWords z = Scenes.withTwentyActs();
            act.answer(z);
            Check.due("as the 21st", 20, z.count(2));
            Check.due("as the 21st", 19, z.undo());
        }
    }

    private static void refusedCallsAreNoActs() {
        Check.promise(33, "The latest ACT");
        RewrittenWords x = with("letters 2;rule ab>ba;", "ba", "b");
        Check.feed(x, "?");
        x.tell(0, 1);
        x.make(0, 0);
        x.close(1);
        x.tidy();
        Check.of(() -> x.go(0, 3));
        Check.of(() -> x.go(6, 0));
        Check.of(() -> x.take(0, 0, 1));
        Check.of(() -> x.close(0));
        Check.of(() -> x.tell(6, 0));
        Check.of(() -> x.system(1));
        x.run(0, 0, 0);
        x.say();
        x.image();
        Check.due("two words told", 2, x.count(2));
        Check.due("the latest one is undone", 1, x.undo());
        Check.due("the latest one is undone", "", Check.word(x, 1));
        Check.due("the first one is there", "ba", Check.word(x, 0));
    }

    private static void imageInPlace() {
        Check.promise(34, "is kept (in place of what was)");
        RewrittenWords x = with("letters 2;rule a>b;", "a");
        x.image();
        x.make(0, 0);
        x.image();
        Check.tell(x, 0, "aa");
        Check.due("back", true, x.back());
        Check.due("the later one", "b", Check.word(x, 0));
        Check.due("with its step", 1, x.word(0, 8));
        Check.system(x, "letters 1;");
        x.image();
        Check.system(x, "letters 5;");
        x.back();
        Check.due("the latest one", 1, x.count(0));
    }

    private static void imageKeepsBounds() {
        Check.promise(34, "All .. is kept");
        RewrittenWords x = Scenes.withFortySteps();
        x.image();
        Check.system(x, "letters 5;");
        x.back();
        Check.due("forty steps", 40, x.word(0, 8));
        Check.due("the 40th", 1, x.made(0, 39, 1));
        Check.due("no 41st", -1, x.make(0, 0));
        RewrittenWords y = Check.with("letters 2;weigh b 2;order ba;rule bb>baa;");
        y.close(10);
        y.close(1);
        String said = Check.say(y);
        Check.tell(y, 5, "bbbbbbbbbbbbbbbb");
        y.image();
        Check.system(y, "letters 1;");
        y.back();
        Check.due("twelve rules, weights, order", said, Check.say(y));
        Check.due("16 letters", "bbbbbbbbbbbbbbbb", Check.word(y, 5));
        Check.due("bb by the rules of then", 2, Check.tell(y, 4, "bb"));
        Check.due("bb by the rules of then", 3, y.make(4, 0));
    }

    /** Forty STEPS at a PLACE, those of a's and b's by turns where the bits of a number say so. */
    private static void makeForty(RewrittenWords x, int place, long bits) {
        Check.tell(x, place, "ab");
        for (int k = 0; k < 40; k++) {
            x.make(place, (int) (bits >> k) & 1);
        }
    }

    private static String fortySteps(RewrittenWords x, int place) {
        StringBuilder row = new StringBuilder(Check.word(x, place)).append(' ');
        for (int k = 0; k < x.word(place, 8); k++) {
            row.append(x.made(place, k, 0));
        }
        return row.toString();
    }

    private static void imageKeepsAllSteps() {
        Check.promise(34, "All .. is kept");
        for (int place = 0; place < 6; place += 5) {
            RewrittenWords x = Check.with("letters 2;rule a>b;rule b>a;");
            makeForty(x, place, 0x5a5a5f0f33L);
            x.image();
            String steps = fortySteps(x, place);
            Check.due("40 steps", 43, steps.length());
            makeForty(x, place, 0xa5a5a0f0ccL);
            Check.due("other steps", false, steps.equals(fortySteps(x, place)));
            x.back();
            Check.due("the steps of then at " + place, steps, fortySteps(x, place));
        }
    }

    private static void undoBringsAllSteps() {
        Check.promise(33, "The latest ACT is UNDONE");
        for (int place = 0; place < 6; place += 5) {
            RewrittenWords x = Check.with("letters 2;rule a>b;rule b>a;");
            makeForty(x, place, 0x5a5a5f0f33L);
            String steps = fortySteps(x, place);
            Check.tell(x, place, "ab");
            for (int k = 0; k < 18; k++) {
                x.make(place, 1);
            }
            for (int k = 0; k < 19; k++) {
                x.undo();
            }
            Check.due("the steps of then at " + place, steps, fortySteps(x, place));
        }
    }

    private static void undoBringsWhatWasTold() {
        Check.promise(33, "A DERIVATION of a PLACE: the WORD that it was told, and the STEPS made there since");
        RewrittenWords x = with("letters 2;rule aab>b;", "aabb", "aabb");
        x.make(0, 0);
        x.make(1, 0);
        Check.due("one", true, x.areOne(0, 1));
        x.image();
        Check.tell(x, 0, "bb");
        Check.due("told another one", false, x.areOne(0, 1));
        x.undo();
        Check.due("undone", true, x.areOne(0, 1));
        Check.due("undone: its canon", 0, x.canon(0, 0, 0));
        Check.tell(x, 1, "b");
        x.back();
        Check.due("brought back", true, x.areOne(0, 1));
        x.tidy();
        Check.due("tidied: both are told bb then", true, x.areOne(0, 1));
        x.undo();
        x.take(1, 1, 0);
        Check.due("told bb, and come to bb", false, x.areOne(0, 1));
    }

    private static void canonOfOneBehindAnother() {
        Check.promise(31, "of all not made yet");
        RewrittenWords x = with("letters 2;rule a>b;", "aa", "aa");
        makeAt(x, 0, 1, 0);
        makeAt(x, 0, 0, 0);
        makeAt(x, 1, 1, 0);
        Check.due("the first", 0, x.canon(0, 0, 0));
        Check.due("its second step", 1, x.canon(0, 1, 0));
        Check.due("the second has one step, at 1", 1, x.canon(1, 0, 0));
        Check.due("which is the first of its canon", 0, x.made(1, 0, 4));
        Check.due("the first again", 0, x.canon(0, 0, 0));
        Check.due("they are not one", false, x.areOne(1, 0));
    }

    private static void imageOfANewObject() {
        Check.promise(34, "All .. is kept");
        RewrittenWords x = new RewrittenWords();
        x.image();
        Check.system(x, "letters 4;rule a>b;weigh b 3;order bacd;");
        Check.tell(x, 3, "abcd");
        Check.due("back", true, x.back());
        Check.due("two letters, no rules", "/a1b1", Check.say(x));
        Check.due("empty words", "", Check.word(x, 3));
    }

    private static void imageLeavesOut() {
        Check.promise(34, "(but ACTS, the tape, fault())");
        RewrittenWords x = Scenes.full();
        x.image();
        Check.due("acts are as they were", 5, x.count(2));
        Check.due("the tape is as it was", 40, x.count(3));
        Check.due("the fault is as it was", 8, x.fault());
        x.undo();
        Check.due("acts can be undone", "", Check.word(x, 5));
        x.tell(0, 0);
        Check.system(x, "letters 3;rule");
        Check.feed(x, "ab");
        Check.due("back", true, x.back());
        Check.due("the undone one is there again", 16, x.word(5, 0));
        Check.due("acts are gone", 0, x.count(2));
        Check.due("the tape of now", 20, x.count(3));
        Check.due("the fault of now", 14, x.fault());
        Check.due("bytes of now", 2, x.tell(0, 2));
        Check.due("bytes of now", "ab", Check.word(x, 0));
    }

    private static RewrittenWords withNothingKept() {
        RewrittenWords x = with("letters 3;rule ba>ab;rule cc>;", "ba", "cc", "abc");
        x.make(0, 0);
        x.say();
        Check.system(x, "letters");
        Check.feed(x, "abc");
        return x;
    }

    private static void backNothing() {
        Check.promise(35, "false (nothing changes): nothing was");
        Check.changesNothing("new", false, RewrittenWords::new, RewrittenWords::back);
        Check.changesNothing("used", false, BoundsOfDerivationsTest::withNothingKept, RewrittenWords::back);
        RewrittenWords x = withNothingKept();
        Check.due("nothing was kept", false, x.back());
        Check.due("acts stay", 4, x.count(2));
        x.image();
        Check.due("now it is", true, x.back());
    }

    private static void backAgain() {
        Check.promise(35, "All is as it was kept (ACTS are gone): true");
        RewrittenWords x = with("letters 3;rule ba>ab;rule cc>;", "bca", "cc");
        x.make(1, 0);
        x.image();
        for (int k = 0; k < 3; k++) {
            Check.tell(x, 0, "cccc");
            x.go(0, 0);
            x.close(1);
            x.tidy();
            Check.due("acts", true, x.count(2) >= 4);
            Check.due("back", true, x.back());
            Check.due("acts are gone", 0, x.count(2));
            Check.due("nothing to undo", -1, x.undo());
            Check.due("place 0", "bca", Check.word(x, 0));
            Check.due("place 1", "", Check.word(x, 1));
            Check.due("its step", 1, x.word(1, 8));
            Check.due("its step", 1, x.made(1, 0, 1));
            Check.due("rules", 2, x.count(1));
        }
        Check.due("at once", true, x.back());
    }

    /** The calls made so far; a test keeps to 512. */
    private static int calls;

    private static int call(int answer) {
        calls++;
        return answer;
    }

    private static void feedAndTell(RewrittenWords x, int place, int word, int n) {
        call(x.feed(word, word, word, word, word));
        call(x.tell(place, n));
    }

    private static void calls512OfAll() {
        Check.promise(1, "An object is used for at most 512 calls after it has been made");
        RewrittenWords x = Check.with("letters 3;weigh b 6;weigh c 9;rule cc>baa;rule bc>aa;rule abcb>bca;");
        // 4 times feed, system
        calls = 5;
        for (int round = 0; calls <= 512 - 30; round++) {
            int place = round % 6;
            int other = (round + 1) % 6;
            feedAndTell(x, place, 0x61626362, 16);
            feedAndTell(x, other, 0x63636261, 12);
            Check.due("close", 9, call(x.close(10)));
            Check.due("open ones", 1, call(x.count(5)));
            Check.due("overlaps", 89, call(x.count(4)));
            call(x.word(place, 7));
            call(x.far(place, other));
            call(x.meet(place, other, 0));
            call(x.run(place, 2, 1));
            call(x.go(place, round % 3));
            call(x.free(8));
            call(x.say());
            call(x.areOne(0, 1) ? 1 : 0);
            call(x.letter(0, 2));
            Check.due("tidy", true, call(x.tidy()) > 0);
            Check.due("tidy undone", true, call(x.undo()) >= 0);
            Check.due("the run undone", true, call(x.undo()) >= 0);
            Check.due("close undone", true, call(x.undo()) >= 0);
            Check.due("three rules again", 3, call(x.count(1)));
        }
        while (calls < 509) {
            Check.due("three letters", 3, call(x.count(0)));
        }
        feedAndTell(x, 0, 0x61626362, 4);
        Check.due("the 512th call: the weight of abcb", 22, call(x.word(0, 1)));
        Check.due("calls", 512, calls);
    }

    private static void calls512OfActs() {
        Check.promise(1, "at most 512 calls");
        RewrittenWords x = new RewrittenWords();
        for (calls = 0; calls < 480;) {
            call(x.feed(0x61616161, 0x61616161, 0x61616161, 0x61616161, 0x61616161));
            call(x.tell(calls % 6, calls % 17));
        }
        Check.due("acts", 20, call(x.count(2)));
        for (int k = 19; k >= 0; k--) {
            Check.due("undone", k, call(x.undo()));
        }
        Check.due("none more", -1, call(x.undo()));
        for (int k = 0; k < 9; k++) {
            Check.due("none more", -1, call(x.undo()));
        }
        Check.due("the 512th call", 2, call(x.count(0)));
        Check.due("calls", 512, calls);
    }

    private static void calls512Refused() {
        Check.promise(1, "at most 512 calls");
        RewrittenWords x = new RewrittenWords();
        for (calls = 0; calls < 510; calls += 3) {
            Check.refused("system", () -> x.system(1));
            Check.missing("word", () -> x.word(6, 0));
            Check.refused("close", () -> x.close(0));
        }
        Check.due("acts", 0, call(x.count(2)));
        Check.due("the 512th call", 20, call(x.feed(1, 2, 3, 4, 5)));
        Check.due("calls", 512, calls);
    }
}

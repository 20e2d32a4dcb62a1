import java.util.Arrays;
import java.util.NoSuchElementException;

/** Words rewritten by few rules; what each call promises is said in the document DOC.md. */
public final class RewrittenWords {
    public static final int NONE = -1;

    private static final int MOST_LETTERS = 5;
    private static final int LONGEST_WORD = 16;
    private static final int MOST_RULES = 12;
    private static final int MOST_TOLD_RULES = 6;
    private static final int PLACES = 6;
    private static final int MOST_STEPS = 40;
    private static final int MOST_ACTS = 20;
    private static final int LONGEST_TAPE = 300;
    private static final int LONGEST_FREE = 8;
    /** 12 RULES of 16, >, 16 with commas between, a stroke, 5 LETTERS with their WEIGHTS. */
    private static final int LONGEST_SAID = 430;

    private final int[] tape = new int[LONGEST_TAPE];
    private int fed = 0;
    private int faultPlace = NONE;
    private final Desk desk = new Desk();
    private final Desk kept = new Desk();
    private boolean isKept = false;
    private final Acts acts = new Acts();
    private final Reader reader = new Reader(tape);
    private final Runner runner = new Runner(desk.rules);
    private final Overlaps overlaps = new Overlaps(desk.rules, runner);
    private final Reach reachOfOne = new Reach(desk.rules, false);
    private final Reach reachOfOther = new Reach(desk.rules, false);
    private final Reach reachBothWays = new Reach(desk.rules, true);
    private final Avoider avoider = new Avoider(desk.rules);
    private final Head headOfOne = new Head();
    private final Head headOfOther = new Head();
    private final Drawing drawingOfOne = new Drawing(desk);
    private final Drawing drawingOfOther = new Drawing(desk);
    private final int[] saidBytes = new int[LONGEST_SAID];
    private int saidLength = 0;

    public RewrittenWords() {
    }

    public int feed(int a, int b, int c, int d, int e) {
        if (fed + 20 > LONGEST_TAPE) {
            return NONE;
        }
        feedNumber(a);
        feedNumber(b);
        feedNumber(c);
        feedNumber(d);
        feedNumber(e);
        return fed;
    }

    private void feedNumber(int number) {
        for (int shift = 24; shift >= 0 && fed < LONGEST_TAPE; shift -= 8) {
            tape[fed] = (number >>> shift) & 255;
            fed++;
        }
    }

    public int system(int n) throws IllegalArgumentException {
        needBytes(n);
        fed = 0;
        int found = reader.readText(n);
        if (found != 0) {
            faultPlace = reader.from;
            return -10 - found;
        }
        faultPlace = NONE;
        desk.rules.copyFrom(reader.rules);
        desk.emptyPlaces();
        acts.forget();
        return desk.rules.size;
    }

    public int fault() {
        return faultPlace;
    }

    public int count(int what) throws NoSuchElementException {
        switch (what) {
            case 0:
                return desk.rules.letters;
            case 1:
                return desk.rules.size;
            case 2:
                return acts.size;
            case 3:
                return fed;
            case 4:
                overlaps.gather();
                return overlaps.size;
            case 5:
                return overlaps.openOnes();
            case 6:
                return desk.rules.falling();
            default:
                throw new NoSuchElementException("no such count");
        }
    }

    public int side(int rule, boolean right, int k) throws NoSuchElementException {
        needRule(rule);
        needIndex(k);
        return Words.letterOf(right ? desk.rules.right[rule] : desk.rules.left[rule], k);
    }

    public int letter(int letter, int what) throws NoSuchElementException {
        if (letter < 0 || letter >= desk.rules.letters) {
            throw new NoSuchElementException("no such letter");
        }
        needWhat(what, 2);
        if (what == 0) {
            return desk.rules.weight[letter];
        }
        return what == 1 ? desk.rules.rank[letter] : desk.rules.leastOf(letter);
    }

    public int tell(int place, int n) throws IllegalArgumentException {
        if (place < 0 || place >= PLACES) {
            throw new IllegalArgumentException("no such place");
        }
        needBytes(n);
        fed = 0;
        long told = wordOnTape(n);
        if (told == Words.NO_WORD) {
            return NONE;
        }
        acts.keep(desk);
        desk.begin(place, told);
        return n;
    }

    private long wordOnTape(int n) {
        if (n > LONGEST_WORD) {
            return Words.NO_WORD;
        }
        long told = 0;
        for (int k = 0; k < n; k++) {
            int letter = tape[k] - 'a';
            if (letter < 0 || letter >= desk.rules.letters) {
                return Words.NO_WORD;
            }
            told = Words.longer(told, letter);
        }
        return told;
    }

    public int word(int place, int what) throws NoSuchElementException {
        needPlace(place);
        needWhat(what, 9);
        long here = desk.now[place];
        if (what >= 4 && what <= 7) {
            reachOfOne.spread(here);
        }
        switch (what) {
            case 0:
                return Words.length(here);
            case 1:
                return Rules.weighBy(desk.rules.weight, here);
            case 2:
                return desk.rules.stepsOf(here);
            case 3:
                return desk.rules.stepCode(here, 0) == NONE ? 1 : 0;
            case 4:
                return reachOfOne.size;
            case 5:
                return reachOfOne.normals;
            case 6:
                return reachOfOne.end;
            case 7:
                return reachOfOne.loop;
            case 8:
                return desk.steps[place];
            default:
                drawingOfOne.draw(place);
                return drawingOfOne.rounds;
        }
    }

    public int at(int place, int k) throws NoSuchElementException {
        needPlace(place);
        needIndex(k);
        return Words.letterOf(desk.now[place], k);
    }

    public int step(int place, int k, int what) throws NoSuchElementException {
        needPlace(place);
        needIndex(k);
        needWhat(what, 1);
        int code = desk.rules.stepCode(desk.now[place], k);
        if (code == NONE) {
            throw new NoSuchElementException("no such step");
        }
        return what == 0 ? Rules.whereOf(code) : Rules.ruleOf(code);
    }

    public int make(int place, int k) throws NoSuchElementException {
        needPlace(place);
        if (k < 0 || desk.steps[place] >= MOST_STEPS) {
            return NONE;
        }
        int code = desk.rules.stepCode(desk.now[place], k);
        if (code == NONE) {
            return NONE;
        }
        acts.keep(desk);
        desk.addStep(place, code);
        return Words.length(desk.now[place]);
    }

    public int run(int place, int way, int what) throws NoSuchElementException, IllegalArgumentException {
        needPlace(place);
        needWhat(what, 2);
        needWay(way);
        long last = runner.runFrom(desk.now[place], way);
        if (what == 0) {
            return runner.ended;
        }
        return what == 1 ? runner.steps : Words.length(last);
    }

    public int go(int place, int way) throws NoSuchElementException, IllegalArgumentException {
        needPlace(place);
        needWay(way);
        runner.runFrom(desk.now[place], way);
        if (desk.steps[place] + runner.steps > MOST_STEPS) {
            return NONE;
        }
        acts.keep(desk);
        for (int k = 0; k < runner.steps; k++) {
            desk.addStep(place, runner.codes[k]);
        }
        return runner.steps;
    }

    public int take(int place, int from, int k) throws NoSuchElementException {
        needPlace(place);
        needPlace(from);
        reachOfOne.spread(desk.now[from]);
        needBelow(k, reachOfOne.size);
        acts.keep(desk);
        desk.begin(place, reachOfOne.words[k]);
        return Words.length(desk.now[place]);
    }

    public int came(int place, int k) throws NoSuchElementException {
        needPlace(place);
        reachOfOne.spread(desk.now[place]);
        needBelow(k, reachOfOne.size);
        return reachOfOne.came[k];
    }

    public int meet(int one, int other, int what) throws NoSuchElementException {
        needPlace(one);
        needPlace(other);
        needWhat(what, 1);
        reachOfOne.spread(desk.now[one]);
        reachOfOther.spread(desk.now[other]);
        for (int k = 0; k < reachOfOne.size; k++) {
            int there = reachOfOther.find(reachOfOne.words[k]);
            if (there != NONE) {
                return what == 0 ? k : there;
            }
        }
        return NONE;
    }

    public int far(int one, int other) throws NoSuchElementException {
        needPlace(one);
        needPlace(other);
        reachBothWays.spread(desk.now[one]);
        int there = reachBothWays.find(desk.now[other]);
        return there == NONE ? NONE : reachBothWays.came[there];
    }

    public int compare(int one, int other) throws NoSuchElementException {
        needPlace(one);
        needPlace(other);
        return desk.rules.order(desk.now[one], desk.now[other]);
    }

    public int overlap(int k, int what) throws NoSuchElementException {
        needWhat(what, 4);
        overlaps.gather();
        needBelow(k, overlaps.size);
        switch (what) {
            case 0:
                return overlaps.firstRule(k);
            case 1:
                return overlaps.secondRule(k);
            case 2:
                return overlaps.shift(k);
            case 3:
                return Words.length(overlaps.words[k]);
            default:
                return overlaps.isClosed(k) ? 1 : 0;
        }
    }

    public boolean falls(int rule) throws NoSuchElementException {
        needRule(rule);
        return desk.rules.isFalling(rule);
    }

    public int close(int n) throws IllegalArgumentException {
        if (n < 1 || n > 10) {
            throw new IllegalArgumentException("1 to 10 times");
        }
        if (desk.rules.falling() < desk.rules.size) {
            return NONE;
        }
        acts.keep(desk);
        for (int added = 0; added < n; added++) {
            int least = desk.rules.size < MOST_RULES ? overlaps.leastOpen() : NONE;
            if (least == NONE) {
                return added;
            }
            overlaps.addRuleOf(least);
        }
        return n;
    }

    public int tidy() {
        if (desk.rules.falling() < desk.rules.size) {
            return NONE;
        }
        acts.keep(desk);
        int gone = desk.rules.dropCovered();
        for (int rule = 0; rule < desk.rules.size; rule++) {
            desk.rules.setRight(rule, runner.runFrom(desk.rules.right[rule], 0));
        }
        desk.beginAll();
        return gone;
    }

    public int constant() {
        int bits = 0;
        for (int letter = 0; letter < desk.rules.letters; letter++) {
            if (desk.rules.isConstant(letter)) {
                bits |= 1 << letter;
            }
        }
        return bits;
    }

    public int say() {
        Rules rules = desk.rules;
        saidLength = 0;
        for (int rule = 0; rule < rules.size; rule++) {
            if (rule > 0) {
                saySign(',');
            }
            sayWord(rules.left[rule]);
            saySign('>');
            sayWord(rules.right[rule]);
        }
        saySign('/');
        for (int where = 0; where < rules.letters; where++) {
            int letter = rules.letterAtRank(where);
            saySign('a' + letter);
            saySign('0' + rules.weight[letter]);
        }
        return saidLength;
    }

    private void sayWord(long word) {
        for (int k = 0; k < Words.length(word); k++) {
            saySign('a' + Words.letterOf(word, k));
        }
    }

    private void saySign(int sign) {
        if (saidLength < LONGEST_SAID) {
            saidBytes[saidLength] = sign;
            saidLength++;
        }
    }

    public int said(int i) {
        return i < 0 || i >= saidLength ? NONE : saidBytes[i];
    }

    public int head(int rule, boolean right, int k) throws NoSuchElementException {
        needRule(rule);
        needIndex(k);
        headOfOne.findOf(desk.rules.left[rule], desk.rules.right[rule]);
        return Words.letterOf(right ? headOfOne.right : headOfOne.left, k);
    }

    public int free(int n) throws IllegalArgumentException {
        if (n < 0 || n > LONGEST_FREE) {
            throw new IllegalArgumentException("0 to 8 letters");
        }
        return avoider.countOf(n);
    }

    public boolean areKin(int rule, int other) throws NoSuchElementException {
        needRule(rule);
        needRule(other);
        headOfOne.findOf(desk.rules.left[rule], desk.rules.right[rule]);
        headOfOther.findOf(desk.rules.left[other], desk.rules.right[other]);
        return headOfOne.left == headOfOther.left && headOfOne.right == headOfOther.right;
    }

    public int made(int place, int k, int what) throws NoSuchElementException {
        needPlace(place);
        needBelow(k, desk.steps[place]);
        needWhat(what, 4);
        drawingOfOne.draw(place);
        switch (what) {
            case 0:
                return Rules.whereOf(desk.codeAt(place, k));
            case 1:
                return Rules.ruleOf(desk.codeAt(place, k));
            case 2:
                return drawingOfOne.round[k];
            case 3:
                return drawingOfOne.standsOn[k];
            default:
                return drawingOfOne.canonPlace[k];
        }
    }

    public int canon(int place, int k, int what) throws NoSuchElementException {
        needPlace(place);
        needBelow(k, desk.steps[place]);
        needWhat(what, 1);
        drawingOfOne.draw(place);
        return what == 0 ? drawingOfOne.canonWhere[k] : drawingOfOne.canonRule[k];
    }

    public boolean areOne(int one, int other) throws NoSuchElementException {
        needPlace(one);
        needPlace(other);
        if (desk.told[one] != desk.told[other] || desk.steps[one] != desk.steps[other]) {
            return false;
        }
        drawingOfOne.draw(one);
        drawingOfOther.draw(other);
        return drawingOfOne.hasCanonOf(drawingOfOther);
    }

    public int undo() {
        if (acts.size == 0) {
            return NONE;
        }
        acts.giveBack(desk);
        return acts.size;
    }

    public void image() {
        kept.copyFrom(desk);
        isKept = true;
    }

    public boolean back() {
        if (!isKept) {
            return false;
        }
        desk.copyFrom(kept);
        acts.forget();
        return true;
    }

    private void needBytes(int n) {
        if (n < 0 || n > fed) {
            throw new IllegalArgumentException("the tape has not so many bytes");
        }
    }

    private void needRule(int rule) {
        if (rule < 0 || rule >= desk.rules.size) {
            throw new NoSuchElementException("no such rule");
        }
    }

    private static void needPlace(int place) {
        if (place < 0 || place >= PLACES) {
            throw new NoSuchElementException("no such place");
        }
    }

    private static void needIndex(int k) {
        if (k < 0) {
            throw new NoSuchElementException("below 0");
        }
    }

    private static void needBelow(int k, int size) {
        if (k < 0 || k >= size) {
            throw new NoSuchElementException("there is none such");
        }
    }

    private static void needWhat(int what, int last) {
        if (what < 0 || what > last) {
            throw new NoSuchElementException("nothing is told by this number");
        }
    }

    private static void needWay(int way) {
        if (way < 0 || way > 2) {
            throw new IllegalArgumentException("no such way");
        }
    }

    /**
     * WORDS, each packed into one long so that no object is made for it: LETTER k as 1 to 5 in the
     * three bits from 3 * k on, how many LETTERS from bit 48 on. 0 is the empty WORD.
     */
    private static final class Words {
        static final long NO_WORD = -1;
        static final int LENGTH_FROM = 3 * LONGEST_WORD;
        static final long LETTER_BITS = (1L << LENGTH_FROM) - 1;

        private Words() {
        }

        static int length(long word) {
            return (int) (word >>> LENGTH_FROM);
        }

        /** The LETTER at k (not below 0), NONE behind the last one. */
        static int letterOf(long word, int k) {
            return k >= (int) (word >>> LENGTH_FROM) ? NONE : (int) ((word >>> (3 * k)) & 7) - 1;
        }

        static long longer(long word, int letter) {
            int length = (int) (word >>> LENGTH_FROM);
            if (length >= LONGEST_WORD) {
                return word;
            }
            return (word + (1L << LENGTH_FROM)) | ((letter + 1L) << (3 * length));
        }

        static long part(long word, int from, int length) {
            long letters = ((word & LETTER_BITS) >>> (3 * from)) & ((1L << (3 * length)) - 1);
            return letters | ((long) length << LENGTH_FROM);
        }

        static long backwards(long word) {
            long turned = 0;
            for (int k = length(word) - 1; k >= 0; k--) {
                turned = longer(turned, letterOf(word, k));
            }
            return turned;
        }

        static int countOf(long word, int letter) {
            int found = 0;
            for (int k = 0; k < length(word); k++) {
                if (letterOf(word, k) == letter) {
                    found++;
                }
            }
            return found;
        }

        /** No LETTER is packed as 0, so nothing stands beyond the end of a WORD. */
        static boolean standsAt(long word, int where, long part) {
            long mask = (1L << (3 * (int) (part >>> LENGTH_FROM))) - 1;
            return (((word & LETTER_BITS) >>> (3 * where)) & mask) == (part & LETTER_BITS);
        }

        static boolean holds(long word, long part) {
            for (int where = 0; where < length(word); where++) {
                if (standsAt(word, where, part)) {
                    return true;
                }
            }
            return false;
        }

        /** Whether taken stands at a place and what comes, with put instead, is no longer than a WORD. */
        static boolean fits(long word, int where, long taken, long put) {
            int takes = (int) (taken >>> LENGTH_FROM);
            long mask = (1L << (3 * takes)) - 1;
            return (((word & LETTER_BITS) >>> (3 * where)) & mask) == (taken & LETTER_BITS)
                    && (int) (word >>> LENGTH_FROM) - takes + (int) (put >>> LENGTH_FROM) <= LONGEST_WORD;
        }

        /** What comes where fits() is true. */
        static long replaced(long word, int where, long taken, long put) {
            int takes = (int) (taken >>> LENGTH_FROM);
            int puts = (int) (put >>> LENGTH_FROM);
            long letters = word & LETTER_BITS;
            long ahead = letters & ((1L << (3 * where)) - 1);
            long behind = letters >>> (3 * (where + takes));
            long length = (word >>> LENGTH_FROM) - takes + puts;
            return ahead | ((put & LETTER_BITS) << (3 * where)) | (behind << (3 * (where + puts)))
                    | (length << LENGTH_FROM);
        }
    }

    /** A SYSTEM. A STEP is told by a code: where it is, times 16, and its RULE. */
    private static final class Rules {
        private static final int MOST_LEAST = 5;

        int letters = 2;
        int size = 0;
        final long[] left = new long[MOST_RULES];
        final long[] right = new long[MOST_RULES];
        final int[] weight = new int[MOST_LETTERS];
        final int[] rank = new int[MOST_LETTERS];
        /** Goes up with every change, so that what was worked out by older RULES is not used. */
        int changes = 0;
        /** LEAST WEIGHTS as they were found at a change; none: the first one is NONE. */
        private final int[] least = new int[MOST_LETTERS];
        private int leastChanges = 0;

        Rules() {
            startAnew(2);
        }

        void startAnew(int newLetters) {
            letters = newLetters;
            size = 0;
            for (int letter = 0; letter < MOST_LETTERS; letter++) {
                weight[letter] = 1;
                rank[letter] = letter;
            }
            changes++;
        }

        void copyFrom(Rules other) {
            letters = other.letters;
            size = other.size;
            System.arraycopy(other.left, 0, left, 0, MOST_RULES);
            System.arraycopy(other.right, 0, right, 0, MOST_RULES);
            System.arraycopy(other.weight, 0, weight, 0, MOST_LETTERS);
            System.arraycopy(other.rank, 0, rank, 0, MOST_LETTERS);
            changes++;
        }

        void add(long newLeft, long newRight) {
            if (size >= MOST_RULES) {
                return;
            }
            left[size] = newLeft;
            right[size] = newRight;
            size++;
            changes++;
        }

        void setRight(int rule, long newRight) {
            right[rule] = newRight;
            changes++;
        }

        static int codeOf(int where, int rule) {
            return where * 16 + rule;
        }

        static int whereOf(int code) {
            return code >> 4;
        }

        static int ruleOf(int code) {
            return code & 15;
        }

        int letterAtRank(int where) {
            for (int letter = 0; letter < letters; letter++) {
                if (rank[letter] == where) {
                    return letter;
                }
            }
            return 0;
        }

        /** Without calls of its own: it stands at the end of the longest rows of calls. */
        static int weighBy(int[] weights, long word) {
            int length = (int) (word >>> Words.LENGTH_FROM);
            int sum = 0;
            for (int k = 0; k < length; k++) {
                int letter = (int) ((word >>> (3 * k)) & 7) - 1;
                sum += letter >= 0 && letter < MOST_LETTERS ? weights[letter] : 0;
            }
            return sum;
        }

        /** 1 if one is ABOVE the other one, -1 if that is ABOVE it, 0 if they are alike. */
        int order(long one, long other) {
            int weightOfOne = weighBy(weight, one);
            int weightOfOther = weighBy(weight, other);
            if (weightOfOne != weightOfOther) {
                return weightOfOne > weightOfOther ? 1 : -1;
            }
            // neither begins with the other one here: it would weigh less
            int both = Math.min(Words.length(one), Words.length(other));
            for (int k = 0; k < both; k++) {
                int first = Words.letterOf(one, k);
                int second = Words.letterOf(other, k);
                if (first != second) {
                    return rank[first] > rank[second] ? 1 : -1;
                }
            }
            return 0;
        }

        boolean isFalling(int rule) {
            return order(left[rule], right[rule]) > 0;
        }

        int falling() {
            int found = 0;
            for (int rule = 0; rule < size; rule++) {
                if (isFalling(rule)) {
                    found++;
                }
            }
            return found;
        }

        /** The WEIGHT of a LETTER by LEAST WEIGHTS. */
        int leastOf(int letter) {
            if (leastChanges != changes) {
                leastChanges = changes;
                findLeast();
            }
            return least[0] == NONE ? NONE : least[letter];
        }

        private void findLeast() {
            Arrays.fill(least, 1);
            int rows = 1;
            for (int letter = 0; letter < letters; letter++) {
                rows *= MOST_LEAST;
            }
            for (int row = 0; row < rows; row++) {
                if (allWeighLess()) {
                    return;
                }
                goToNextRow();
            }
            least[0] = NONE;
        }

        /** The last LETTER goes ahead first; behind the last row comes the first one again. */
        private void goToNextRow() {
            for (int letter = letters - 1; letter >= 0; letter--) {
                if (least[letter] < MOST_LEAST) {
                    least[letter]++;
                    return;
                }
                least[letter] = 1;
            }
        }

        private boolean allWeighLess() {
            for (int rule = 0; rule < size; rule++) {
                if (weighBy(least, left[rule]) <= weighBy(least, right[rule])) {
                    return false;
                }
            }
            return true;
        }

        boolean isConstant(int letter) {
            for (int rule = 0; rule < size; rule++) {
                if (Words.countOf(left[rule], letter) != Words.countOf(right[rule], letter)) {
                    return false;
                }
            }
            return true;
        }

        int stepsOf(long word) {
            int found = 0;
            for (int where = 0; where < Words.length(word); where++) {
                for (int rule = 0; rule < size; rule++) {
                    if (Words.fits(word, where, left[rule], right[rule])) {
                        found++;
                    }
                }
            }
            return found;
        }

        /** The code of STEP k of a WORD, NONE: it has not so many. */
        int stepCode(long word, int k) {
            int found = 0;
            for (int where = 0; where < Words.length(word); where++) {
                for (int rule = 0; rule < size; rule++) {
                    if (Words.fits(word, where, left[rule], right[rule])) {
                        if (found == k) {
                            return codeOf(where, rule);
                        }
                        found++;
                    }
                }
            }
            return NONE;
        }

        long after(long word, int code) {
            int rule = ruleOf(code);
            return Words.replaced(word, whereOf(code), left[rule], right[rule]);
        }

        /** The first part of to TIDY: how many RULES went. */
        int dropCovered() {
            int gone = 0;
            int covered = firstCovered();
            while (covered != NONE && gone < MOST_RULES) {
                drop(covered);
                gone++;
                covered = firstCovered();
            }
            return gone;
        }

        private int firstCovered() {
            for (int rule = 0; rule < size; rule++) {
                for (int other = 0; other < size; other++) {
                    if (other != rule && Words.holds(left[rule], left[other])) {
                        return rule;
                    }
                }
            }
            return NONE;
        }

        private void drop(int gone) {
            for (int rule = gone; rule < size - 1; rule++) {
                left[rule] = left[rule + 1];
                right[rule] = right[rule + 1];
            }
            size--;
            changes++;
        }
    }

    /** All that an ACT changes and an image keeps: the SYSTEM and, of each PLACE, its DERIVATION. */
    private static final class Desk {
        final Rules rules = new Rules();
        final long[] told = new long[PLACES];
        final long[] now = new long[PLACES];
        final int[] steps = new int[PLACES];
        private final int[] codes = new int[PLACES * MOST_STEPS];

        void copyFrom(Desk other) {
            rules.copyFrom(other.rules);
            System.arraycopy(other.told, 0, told, 0, PLACES);
            System.arraycopy(other.now, 0, now, 0, PLACES);
            System.arraycopy(other.steps, 0, steps, 0, PLACES);
            System.arraycopy(other.codes, 0, codes, 0, PLACES * MOST_STEPS);
        }

        void begin(int place, long word) {
            told[place] = word;
            now[place] = word;
            steps[place] = 0;
        }

        void beginAll() {
            for (int place = 0; place < PLACES; place++) {
                begin(place, now[place]);
            }
        }

        void emptyPlaces() {
            for (int place = 0; place < PLACES; place++) {
                begin(place, 0);
            }
        }

        void addStep(int place, int code) {
            if (steps[place] >= MOST_STEPS) {
                return;
            }
            codes[place * MOST_STEPS + steps[place]] = code;
            steps[place]++;
            now[place] = rules.after(now[place], code);
        }

        int codeAt(int place, int k) {
            return codes[place * MOST_STEPS + k];
        }
    }

    /** The latest ACTS: what was ahead of each, in a ring. */
    private static final class Acts {
        private final Desk[] ring = new Desk[MOST_ACTS];
        private int next = 0;
        int size = 0;

        Acts() {
            for (int k = 0; k < MOST_ACTS; k++) {
                ring[k] = new Desk();
            }
        }

        void keep(Desk desk) {
            ring[next].copyFrom(desk);
            next = next + 1 < MOST_ACTS ? next + 1 : 0;
            size = Math.min(size + 1, MOST_ACTS);
        }

        void giveBack(Desk desk) {
            if (size == 0) {
                return;
            }
            next = next > 0 ? next - 1 : MOST_ACTS - 1;
            size--;
            desk.copyFrom(ring[next]);
        }

        void forget() {
            size = 0;
        }
    }

    /** Reads the TEXT of a SYSTEM, TOKEN by TOKEN. The reading methods answer a FAULT, 0: none. */
    private static final class Reader {
        private static final int END = 0;
        private static final int ROW = 1;
        private static final int FIGURES = 2;
        private static final int SIGN = 3;
        private static final int CANT_STAND = 1;
        private static final int NOT_AS_TOLD = 2;
        private static final int SEVENTH_RULE = 3;
        private static final int ALIKE = 4;
        private static final int LONGEST_SIDE = 4;
        /** A number above all that can be told: longer rows of figures need no counting. */
        private static final int TOO_MUCH = 1000;

        final Rules rules = new Rules();
        private final int[] text;
        private int length = 0;
        private int kind = END;
        /** Where the TOKEN begins, and where the next one may. */
        int from = 0;
        private int behind = 0;

        Reader(int[] tape) {
            text = tape;
        }

        int readText(int n) {
            length = n;
            behind = 0;
            int found = readLetters();
            for (int lines = 0; lines <= LONGEST_TAPE && found == 0; lines++) {
                if (!isSign(';')) {
                    return CANT_STAND;
                }
                next();
                if (kind == END) {
                    return 0;
                }
                found = readLine();
            }
            return found;
        }

        private int readLetters() {
            next();
            if (!isRow("letters")) {
                return CANT_STAND;
            }
            next();
            int found = numberFault(MOST_LETTERS);
            if (found != 0) {
                return found;
            }
            rules.startAnew(number());
            next();
            return 0;
        }

        /** Goes on to the TOKEN behind the LINE. */
        private int readLine() {
            if (isRow("rule")) {
                return readRule();
            }
            if (isRow("weigh")) {
                return readWeigh();
            }
            return isRow("order") ? readOrder() : CANT_STAND;
        }

        private int readRule() {
            if (rules.size >= MOST_TOLD_RULES) {
                return SEVENTH_RULE;
            }
            next();
            int found = sideFault(LONGEST_SIDE);
            if (found != 0) {
                return found;
            }
            long left = sideWord();
            next();
            return isSign('>') ? readRight(left) : CANT_STAND;
        }

        private int readRight(long left) {
            next();
            long right = 0;
            if (!isSign(';')) {
                int found = sideFault(LONGEST_SIDE);
                if (found != 0) {
                    return found;
                }
                right = sideWord();
                if (right == left) {
                    return ALIKE;
                }
                next();
            }
            rules.add(left, right);
            return 0;
        }

        private int readWeigh() {
            next();
            int found = sideFault(1);
            if (found != 0) {
                return found;
            }
            int letter = text[from] - 'a';
            next();
            found = numberFault(9);
            if (found != 0) {
                return found;
            }
            rules.weight[letter] = number();
            next();
            return 0;
        }

        private int readOrder() {
            next();
            int found = sideFault(rules.letters);
            if (found != 0) {
                return found;
            }
            if (!hasEachOnce()) {
                return NOT_AS_TOLD;
            }
            for (int k = from; k < behind; k++) {
                rules.rank[text[k] - 'a'] = k - from;
            }
            next();
            return 0;
        }

        private boolean hasEachOnce() {
            int seen = 0;
            for (int k = from; k < behind; k++) {
                seen |= 1 << (text[k] - 'a');
            }
            return behind - from == rules.letters && Integer.bitCount(seen) == rules.letters;
        }

        private int sideFault(int most) {
            if (kind != ROW) {
                return CANT_STAND;
            }
            if (behind - from > most) {
                return NOT_AS_TOLD;
            }
            for (int k = from; k < behind; k++) {
                if (text[k] - 'a' >= rules.letters) {
                    return NOT_AS_TOLD;
                }
            }
            return 0;
        }

        private long sideWord() {
            long word = 0;
            for (int k = from; k < behind; k++) {
                word = Words.longer(word, text[k] - 'a');
            }
            return word;
        }

        private int numberFault(int most) {
            if (kind != FIGURES) {
                return CANT_STAND;
            }
            int told = number();
            return told < 1 || told > most ? NOT_AS_TOLD : 0;
        }

        private int number() {
            int sum = 0;
            for (int k = from; k < behind && sum < TOO_MUCH; k++) {
                sum = 10 * sum + text[k] - '0';
            }
            return sum;
        }

        private boolean isSign(char sign) {
            return kind == SIGN && text[from] == sign;
        }

        private boolean isRow(String row) {
            if (kind != ROW || behind - from != row.length()) {
                return false;
            }
            for (int k = 0; k < row.length(); k++) {
                if (text[from + k] != row.charAt(k)) {
                    return false;
                }
            }
            return true;
        }

        private void next() {
            from = behind;
            while (from < length && (text[from] == ' ' || text[from] == '\n')) {
                from++;
            }
            kind = kindAt(from);
            behind = kind == END ? from : from + 1;
            while ((kind == ROW || kind == FIGURES) && behind < length && kindAt(behind) == kind) {
                behind++;
            }
        }

        private int kindAt(int k) {
            if (k >= length) {
                return END;
            }
            if (text[k] >= 'a' && text[k] <= 'z') {
                return ROW;
            }
            return text[k] >= '0' && text[k] <= '9' ? FIGURES : SIGN;
        }
    }

    /** RUNS: of the latest one how it ended, its STEPS, and the WORDS that it went through. */
    private static final class Runner {
        private static final int LONGEST_RUN = 60;

        private final Rules rules;
        private final long[] trail = new long[LONGEST_RUN + 1];
        final int[] codes = new int[LONGEST_RUN];
        int steps = 0;
        int ended = 0;

        Runner(Rules theRules) {
            rules = theRules;
        }

        /** Answers the WORD at the end. */
        long runFrom(long word, int way) {
            trail[0] = word;
            for (steps = 0; steps < LONGEST_RUN; steps++) {
                int code = choose(trail[steps], way);
                if (code == NONE || wasAhead()) {
                    ended = code == NONE ? 0 : 1;
                    return trail[steps];
                }
                codes[steps] = code;
                trail[steps + 1] = rules.after(trail[steps], code);
            }
            if (choose(trail[steps], way) == NONE) {
                ended = 0;
            } else {
                ended = wasAhead() ? 1 : 2;
            }
            return trail[steps];
        }

        private boolean wasAhead() {
            for (int k = 0; k < steps; k++) {
                if (trail[k] == trail[steps]) {
                    return true;
                }
            }
            return false;
        }

        /** The STEP that a WAY takes; NONE: the WORD is NORMAL. */
        private int choose(long word, int way) {
            int best = NONE;
            for (int where = 0; where < Words.length(word); where++) {
                for (int rule = 0; rule < rules.size; rule++) {
                    if (!Words.fits(word, where, rules.left[rule], rules.right[rule])) {
                        continue;
                    }
                    int code = Rules.codeOf(where, rule);
                    if (way == 0) {
                        return code;
                    }
                    if (best == NONE || way == 1
                            || rules.order(rules.after(word, code), rules.after(word, best)) < 0) {
                        best = code;
                    }
                }
            }
            return best;
        }
    }

    /** REACH of a WORD; bothWays: all WORDS that come by STEPS and STEPS BACK. */
    private static final class Reach {
        private static final int MOST_WORDS = 200;
        private static final int SLOTS = 512;

        private final Rules rules;
        private final boolean bothWays;
        final long[] words = new long[MOST_WORDS];
        final int[] came = new int[MOST_WORDS];
        int size = 0;
        int normals = 0;
        int end = NONE;
        int loop = NONE;
        /** Where each WORD is in words, and 1 more; 0: the slot is empty. */
        private final int[] slots = new int[SLOTS];
        private int changes = 0;

        Reach(Rules theRules, boolean inBothWays) {
            rules = theRules;
            bothWays = inBothWays;
        }

        void spread(long word) {
            if (size > 0 && words[0] == word && changes == rules.changes) {
                return;
            }
            changes = rules.changes;
            size = 0;
            normals = 0;
            end = NONE;
            loop = NONE;
            Arrays.fill(slots, 0);
            add(word, 0);
            for (int k = 0; k < size && k < MOST_WORDS; k++) {
                if (follow(k) == 0) {
                    normals++;
                    end = end == NONE ? came[k] : end;
                }
                if (bothWays) {
                    followBack(k);
                }
            }
        }

        /** How many STEPS a WORD has. */
        private int follow(int k) {
            long word = words[k];
            int steps = 0;
            for (int where = 0; where < Words.length(word); where++) {
                for (int rule = 0; rule < rules.size; rule++) {
                    if (Words.fits(word, where, rules.left[rule], rules.right[rule])) {
                        add(Words.replaced(word, where, rules.left[rule], rules.right[rule]), came[k] + 1);
                        steps++;
                    }
                }
            }
            return steps;
        }

        /** An empty RIGHT stands behind the last LETTER, too. */
        private void followBack(int k) {
            long word = words[k];
            for (int where = 0; where <= Words.length(word); where++) {
                for (int rule = 0; rule < rules.size; rule++) {
                    if (Words.fits(word, where, rules.right[rule], rules.left[rule])) {
                        add(Words.replaced(word, where, rules.right[rule], rules.left[rule]), came[k] + 1);
                    }
                }
            }
        }

        private void add(long word, int steps) {
            if (steps > 0 && loop == NONE && word == words[0]) {
                loop = steps;
            }
            int slot = slotOf(word);
            if (slots[slot] == 0 && size < MOST_WORDS) {
                words[size] = word;
                came[size] = steps;
                size++;
                slots[slot] = size;
            }
        }

        /** Where a WORD is, NONE: it isn't there. */
        int find(long word) {
            return slots[slotOf(word)] - 1;
        }

        /** The slot of a WORD, or the empty one that would be its; most slots stay empty. */
        private int slotOf(long word) {
            int slot = (int) (word ^ (word >>> 9) ^ (word >>> 20) ^ (word >>> 37)) & (SLOTS - 1);
            for (int tries = 0; tries < SLOTS; tries++) {
                if (slots[slot] == 0 || words[slots[slot] - 1] == word) {
                    return slot;
                }
                slot = (slot + 1) & (SLOTS - 1);
            }
            return slot;
        }
    }

    /** The OVERLAPS, gathered anew when RULES changed; whether one CLOSES is found when it is asked. */
    private static final class Overlaps {
        private static final int UNKNOWN = 0;
        private static final int CLOSED = 1;
        private static final int OPEN = 2;
        private static final int MOST_OVERLAPS = MOST_RULES * MOST_RULES * LONGEST_WORD;

        private final Rules rules;
        private final Runner runner;
        final long[] words = new long[MOST_OVERLAPS];
        private final int[] codes = new int[MOST_OVERLAPS];
        private final byte[] states = new byte[MOST_OVERLAPS];
        int size = 0;
        private int changes = 0;

        Overlaps(Rules theRules, Runner theRunner) {
            rules = theRules;
            runner = theRunner;
        }

        void gather() {
            if (changes == rules.changes) {
                return;
            }
            changes = rules.changes;
            size = 0;
            for (int i = 0; i < rules.size; i++) {
                for (int j = 0; j < rules.size; j++) {
                    gatherOf(i, j);
                }
            }
        }

        private void gatherOf(int i, int j) {
            int length = Words.length(rules.left[i]);
            for (int s = i < j ? 0 : 1; s < length && size < MOST_OVERLAPS; s++) {
                long word = laid(i, j, s);
                if (word != Words.NO_WORD) {
                    words[size] = word;
                    codes[size] = (i * 16 + j) * 16 + s;
                    states[size] = UNKNOWN;
                    size++;
                }
            }
        }

        /** The WORD of both LEFTS, that of j from s on; NO_WORD: that is no OVERLAP. */
        private long laid(int i, int j, int s) {
            long first = rules.left[i];
            long second = rules.left[j];
            int both = Math.min(Words.length(first) - s, Words.length(second));
            if (s + Words.length(second) > LONGEST_WORD
                    || Words.part(first, s, both) != Words.part(second, 0, both)) {
                return Words.NO_WORD;
            }
            long word = first;
            for (int k = both; k < Words.length(second); k++) {
                word = Words.longer(word, Words.letterOf(second, k));
            }
            boolean areSteps = Words.fits(word, 0, first, rules.right[i])
                    && Words.fits(word, s, second, rules.right[j]);
            return areSteps ? word : Words.NO_WORD;
        }

        int firstRule(int k) {
            return codes[k] >> 8;
        }

        int secondRule(int k) {
            return (codes[k] >> 4) & 15;
        }

        int shift(int k) {
            return codes[k] & 15;
        }

        boolean isClosed(int k) {
            if (states[k] == UNKNOWN) {
                long one = endOf(k, 0, firstRule(k));
                long other = endOf(k, shift(k), secondRule(k));
                states[k] = (byte) (one == other ? CLOSED : OPEN);
            }
            return states[k] == CLOSED;
        }

        private long endOf(int k, int where, int rule) {
            return runner.runFrom(rules.after(words[k], Rules.codeOf(where, rule)), 0);
        }

        int openOnes() {
            gather();
            int found = 0;
            for (int k = 0; k < size; k++) {
                if (!isClosed(k)) {
                    found++;
                }
            }
            return found;
        }

        /** The RULE that makes an OVERLAP CLOSE. */
        void addRuleOf(int k) {
            long one = endOf(k, 0, firstRule(k));
            long other = endOf(k, shift(k), secondRule(k));
            if (rules.order(one, other) > 0) {
                rules.add(one, other);
            } else {
                rules.add(other, one);
            }
        }

        /** Of those that don't CLOSE the first one whose WORD is the least; NONE: all CLOSE. */
        int leastOpen() {
            gather();
            int least = NONE;
            for (int k = 0; k < size; k++) {
                if (!isClosed(k) && (least == NONE || rules.order(words[k], words[least]) < 0)) {
                    least = k;
                }
            }
            return least;
        }
    }

    /**
     * FREE, by states: of the LETTERS read so far the longest end that is the beginning of a LEFT.
     * A LEFT of more than 8 LETTERS stands in no WORD that is asked for.
     */
    private static final class Avoider {
        private static final int MOST_STATES = MOST_RULES * (LONGEST_FREE - 1) + 1;

        private final Rules rules;
        private final long[] states = new long[MOST_STATES];
        private int size = 0;
        /** Of each state and LETTER the next state; NONE: a LEFT stands there. */
        private final int[] nexts = new int[MOST_STATES * MOST_LETTERS];
        private int[] ways = new int[MOST_STATES];
        private int[] waysThen = new int[MOST_STATES];

        Avoider(Rules theRules) {
            rules = theRules;
        }

        int countOf(int n) {
            gatherStates();
            linkStates();
            Arrays.fill(ways, 0);
            ways[0] = 1;
            for (int k = 0; k < n; k++) {
                readOneLetter();
            }
            int sum = 0;
            for (int state = 0; state < size; state++) {
                sum += ways[state];
            }
            return sum;
        }

        private void gatherStates() {
            states[0] = 0;
            size = 1;
            for (int rule = 0; rule < rules.size; rule++) {
                int length = Words.length(rules.left[rule]);
                for (int k = 1; k < length && length <= LONGEST_FREE; k++) {
                    long beginning = Words.part(rules.left[rule], 0, k);
                    if (stateOf(beginning) == NONE && size < MOST_STATES) {
                        states[size] = beginning;
                        size++;
                    }
                }
            }
        }

        private int stateOf(long word) {
            for (int state = 0; state < size; state++) {
                if (states[state] == word) {
                    return state;
                }
            }
            return NONE;
        }

        private void linkStates() {
            for (int state = 0; state < size; state++) {
                for (int letter = 0; letter < rules.letters; letter++) {
                    nexts[state * MOST_LETTERS + letter] = nextOf(Words.longer(states[state], letter));
                }
            }
        }

        private int nextOf(long read) {
            int next = NONE;
            for (int from = 0; from <= Words.length(read); from++) {
                long end = Words.part(read, from, Words.length(read) - from);
                if (isLeft(end)) {
                    return NONE;
                }
                next = next == NONE ? stateOf(end) : next;
            }
            return next;
        }

        private boolean isLeft(long word) {
            for (int rule = 0; rule < rules.size; rule++) {
                if (rules.left[rule] == word) {
                    return true;
                }
            }
            return false;
        }

        private void readOneLetter() {
            Arrays.fill(waysThen, 0);
            for (int state = 0; state < size; state++) {
                for (int letter = 0; letter < rules.letters; letter++) {
                    int next = nexts[state * MOST_LETTERS + letter];
                    if (next != NONE) {
                        waysThen[next] += ways[state];
                    }
                }
            }
            int[] old = ways;
            ways = waysThen;
            waysThen = old;
        }
    }

    /**
     * The HEAD of a RULE. Among all names for the LETTERS those given in the order in which the
     * LETTERS first come make the first row; so only two rows, ahead and backwards, need a look.
     */
    private static final class Head {
        private final int[] names = new int[MOST_LETTERS];
        private int named = 0;
        long left = 0;
        long right = 0;

        void findOf(long ruleLeft, long ruleRight) {
            forgetNames();
            long aheadLeft = rename(ruleLeft);
            long aheadRight = rename(ruleRight);
            forgetNames();
            left = rename(Words.backwards(ruleLeft));
            right = rename(Words.backwards(ruleRight));
            int order = orderByNumbers(aheadLeft, left);
            if (order < 0 || (order == 0 && orderByNumbers(aheadRight, right) < 0)) {
                left = aheadLeft;
                right = aheadRight;
            }
        }

        private void forgetNames() {
            Arrays.fill(names, NONE);
            named = 0;
        }

        private long rename(long word) {
            long renamed = 0;
            for (int k = 0; k < Words.length(word); k++) {
                int letter = Words.letterOf(word, k);
                if (names[letter] == NONE) {
                    names[letter] = named;
                    named++;
                }
                renamed = Words.longer(renamed, names[letter]);
            }
            return renamed;
        }

        /** Of two WORDS of one length. */
        private static int orderByNumbers(long one, long other) {
            for (int k = 0; k < Words.length(one); k++) {
                int order = Integer.compare(Words.letterOf(one, k), Words.letterOf(other, k));
                if (order != 0) {
                    return order;
                }
            }
            return 0;
        }
    }

    /**
     * A DERIVATION as a drawing: each LETTER that is told or made has a number of its own, so that
     * the very ones that a STEP took can be found again in the CANON.
     */
    private static final class Drawing {
        private static final int MOST_EVER = LONGEST_WORD + MOST_STEPS * LONGEST_WORD;

        private final Desk desk;
        private int steps = 0;
        int rounds = 0;
        private final int[] row = new int[MOST_EVER];
        private int length = 0;
        private int ever = 0;
        /** The STEP that made a LETTER, and that which took it as its first one (NONE: none). */
        private final int[] maker = new int[MOST_EVER];
        private final int[] taker = new int[MOST_EVER];
        private final int[] taken = new int[MOST_STEPS * LONGEST_WORD];
        private final int[] takes = new int[MOST_STEPS];
        private final int[] makes = new int[MOST_STEPS];
        private final int[] firstMade = new int[MOST_STEPS];
        final int[] round = new int[MOST_STEPS];
        final int[] standsOn = new int[MOST_STEPS];
        final int[] canonPlace = new int[MOST_STEPS];
        final int[] canonWhere = new int[MOST_STEPS];
        final int[] canonRule = new int[MOST_STEPS];

        Drawing(Desk theDesk) {
            desk = theDesk;
        }

        void draw(int place) {
            steps = desk.steps[place];
            rounds = 0;
            int toldLetters = Words.length(desk.told[place]);
            layTold(toldLetters);
            ever = 0;
            addLetters(toldLetters, NONE);
            for (int k = 0; k < steps; k++) {
                drawStep(k, desk.codeAt(place, k));
            }
            layTold(toldLetters);
            for (int k = 0; k < steps; k++) {
                makeLeftmost(place, k);
            }
        }

        boolean hasCanonOf(Drawing other) {
            if (steps != other.steps) {
                return false;
            }
            for (int k = 0; k < steps; k++) {
                if (canonWhere[k] != other.canonWhere[k] || canonRule[k] != other.canonRule[k]) {
                    return false;
                }
            }
            return true;
        }

        private void layTold(int letters) {
            length = letters;
            for (int k = 0; k < letters; k++) {
                row[k] = k;
            }
        }

        private void addLetters(int letters, int step) {
            for (int k = 0; k < letters && ever < MOST_EVER; k++) {
                maker[ever] = step;
                taker[ever] = NONE;
                ever++;
            }
        }

        private void drawStep(int k, int code) {
            int where = Rules.whereOf(code);
            int rule = Rules.ruleOf(code);
            takes[k] = Words.length(desk.rules.left[rule]);
            makes[k] = Words.length(desk.rules.right[rule]);
            taker[row[where]] = k;
            for (int t = 0; t < takes[k]; t++) {
                taken[k * LONGEST_WORD + t] = row[where + t];
            }
            standOn(k);
            firstMade[k] = ever;
            addLetters(makes[k], k);
            replaceInRow(where, k);
        }

        private void standOn(int k) {
            int greatest = 0;
            standsOn[k] = 0;
            for (int t = 0; t < takes[k]; t++) {
                int step = maker[taken[k * LONGEST_WORD + t]];
                if (step != NONE && isFirstOf(k, t, step)) {
                    standsOn[k]++;
                    greatest = Math.max(greatest, round[step]);
                }
            }
            round[k] = greatest + 1;
            rounds = Math.max(rounds, round[k]);
        }

        /** Whether no LETTER that STEP k took ahead of its t-th one is of the same maker. */
        private boolean isFirstOf(int k, int t, int step) {
            for (int ahead = 0; ahead < t; ahead++) {
                if (maker[taken[k * LONGEST_WORD + ahead]] == step) {
                    return false;
                }
            }
            return true;
        }

        private void replaceInRow(int where, int k) {
            int tail = length - where - takes[k];
            if (tail < 0 || where + makes[k] + tail > MOST_EVER) {
                return;
            }
            System.arraycopy(row, where + takes[k], row, where + makes[k], tail);
            for (int m = 0; m < makes[k]; m++) {
                row[where + m] = firstMade[k] + m;
            }
            length = where + makes[k] + tail;
        }

        private void makeLeftmost(int place, int canonK) {
            for (int where = 0; where < length; where++) {
                int k = taker[row[where]];
                if (k != NONE && liesAt(where, k)) {
                    canonPlace[k] = canonK;
                    canonWhere[canonK] = where;
                    canonRule[canonK] = Rules.ruleOf(desk.codeAt(place, k));
                    replaceInRow(where, k);
                    return;
                }
            }
        }

        /** Whether the LETTERS that STEP k took lie side by side from a place on. */
        private boolean liesAt(int where, int k) {
            if (where + takes[k] > length) {
                return false;
            }
            for (int t = 0; t < takes[k]; t++) {
                if (row[where + t] != taken[k * LONGEST_WORD + t]) {
                    return false;
                }
            }
            return true;
        }
    }
}

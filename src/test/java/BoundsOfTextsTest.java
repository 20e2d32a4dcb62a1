/**
 * The boundary cases of promises 1 to 7, 25 and 26, and of what "Terms" says of TEXTS: a test for each
 * sentence that names one.
 */
public final class BoundsOfTextsTest {
    private static final int LEAST = Integer.MIN_VALUE;
    private static final int MOST = Integer.MAX_VALUE;

    public static void main(String[] args) {
        newObject();
        newObjectCanBeUsed();
        tapeOf300();
        tapeIsEmptiedAndFilledAgain();
        bytesOfNumbers();
        textOf300();
        textOfNothing();
        firstBytesAlone();
        systemRefused();
        systemWithAFault();
        systemStartsAnew();
        oneToFiveLetters();
        sidesOfOneToFour();
        sidesOfTheLetters();
        leftIsNotEmpty();
        sevenRules();
        rightLikeLeft();
        weightsOneToNine();
        ordersOfAllLetters();
        laterOnesCount();
        wordsOfTheGrammar();
        whereATextCanEnd();
        everyByteBehindANumber();
        everyByteBehindARow();
        firstTokenFirstFault();
        placesOfFaults();
        faultOfTheLatest();
        counts();
        countsAtTheirBounds();
        sides();
        sidesOfTwelveRules();
        sidesOfSixteen();
        letters();
        leastWeightsUpToFive();
        sayNothing();
        sayTwelveRules();
        saidAtItsBounds();
        saidBehindAShorterOne();
        saidWhateverCame();
        Check.promisesFrom(1, 7);
        Check.promisesFrom(25, 26);
        Check.end("BoundsOfTextsTest");
    }

    /** Answers the object, so that more can be asked of it. */
    private static RewrittenWords good(String text, int rules) {
        RewrittenWords x = new RewrittenWords();
        Check.due("system " + text, rules, Check.system(x, text));
        Check.due("no fault of " + text, -1, x.fault());
        return x;
    }

    private static void bad(String text, int fault, int place) {
        RewrittenWords x = new RewrittenWords();
        Check.due("system " + text, -10 - fault, Check.system(x, text));
        Check.due("place of the fault of " + text, place, x.fault());
    }

    private static void newObject() {
        Check.promise(1, "Two LETTERS, no RULES; WORDS empty");
        RewrittenWords x = new RewrittenWords();
        for (int what = 1; what <= 6; what++) {
            Check.due("count " + what, 0, x.count(what));
        }
        Check.due("letters", 2, x.count(0));
        for (int letter = 0; letter < 2; letter++) {
            Check.due("its weight", 1, x.letter(letter, 0));
            Check.due("in order", letter, x.letter(letter, 1));
            Check.due("by least weights", 1, x.letter(letter, 2));
        }
        Check.missing("a third letter", () -> x.letter(2, 0));
        Check.missing("a first rule", () -> x.side(0, false, 0));
        Check.missing("a first rule falls", () -> x.falls(0));
        Check.missing("its head", () -> x.head(0, false, 0));
        Check.missing("its kin", () -> x.areKin(0, 0));
        Check.missing("a first overlap", () -> x.overlap(0, 0));
        int[] ofAnEmptyWord = {0, 0, 0, 1, 1, 1, 0, -1, 0, 0};
        for (int place = 0; place < 6; place++) {
            for (int what = 0; what < 10; what++) {
                Check.due("word " + place + " " + what, ofAnEmptyWord[what], x.word(place, what));
            }
            Check.due("at " + place, -1, x.at(place, 0));
        }
        Check.due("fault", -1, x.fault());
        Check.due("said", -1, x.said(0));
        Check.due("undo", -1, x.undo());
        Check.due("back", false, x.back());
        Check.due("constant", 3, x.constant());
        Check.due("free", 256, x.free(8));
    }

    private static void newObjectCanBeUsed() {
        Check.promise(1, "Two LETTERS");
        RewrittenWords x = new RewrittenWords();
        Check.due("both letters", 2, Check.tell(x, 0, "ab"));
        Check.due("no third one", -1, Check.tell(x, 0, "c"));
        Check.due("nothing to do in it", 0, x.go(0, 0));
        Check.due("nothing to close", 0, x.close(1));
        Check.due("nothing to tidy", 0, x.tidy());
        Check.due("acts", 4, x.count(2));
    }

    private static String threeHundred(String end) {
        String text = "letters 2;" + Scenes.times(" \n", 150);
        return text.substring(0, 300 - end.length()) + end;
    }

    private static int feedPart(RewrittenWords x, String text, int from) {
        int[] n = new int[5];
        for (int k = 0; k < 20; k++) {
            n[k / 4] |= text.charAt(from + k) << (24 - 8 * (k % 4));
        }
        return x.feed(n[0], n[1], n[2], n[3], n[4]);
    }

    private static void tapeOf300() {
        Check.promise(2, "NONE, and none come, if it would have more than 300");
        RewrittenWords x = new RewrittenWords();
        String text = threeHundred("rule ab>ba;");
        for (int from = 0; from < 300; from += 20) {
            Check.due("as many as there are", from + 20, feedPart(x, text, from));
        }
        Check.due("300 and 20", -1, x.feed(0x3b3b3b3b, 0x3b3b3b3b, 0x3b3b3b3b, 0x3b3b3b3b, 0x3b3b3b3b));
        Check.due("none come", 300, x.count(3));
        Check.due("again", -1, x.feed(0, 0, 0, 0, 0));
        Check.due("none come", 300, x.count(3));
        Check.due("the bytes are as they were", 1, x.system(300));
        Check.due("the bytes are as they were", "ab>ba", Check.rule(x, 0));
        Check.changesNothing("a full tape", -1, BoundsOfTextsTest::withFullTape, y -> y.feed(1, 2, 3, 4, 5));
    }

    private static RewrittenWords withFullTape() {
        RewrittenWords x = Scenes.full();
        for (int k = 2; k < 15; k++) {
            x.feed(0x61616161, 0x61616161, 0x61616161, 0x61616161, 0x61616161);
        }
        return x;
    }

    private static void tapeIsEmptiedAndFilledAgain() {
        Check.promise(2, "Twenty bytes come behind the tape");
        RewrittenWords x = withFullTape();
        Check.due("full", 300, x.count(3));
        Check.due("emptied", 2, x.tell(0, 2));
        for (int k = 1; k <= 15; k++) {
            Check.due("filled again", 20 * k, x.feed(0, 0, 0, 0, 0));
        }
        Check.due("full again", -1, x.feed(0, 0, 0, 0, 0));
    }

    private static void bytesOfNumbers() {
        Check.promise(2, "of each number the highest first");
        RewrittenWords x = new RewrittenWords();
        Check.due("letters 5;weigh e 9;", 20, x.feed(0x6c657474, 0x65727320, 0x353b7765, 0x69676820, 0x6520393b));
        Check.due("all twenty", 0, x.system(20));
        Check.due("the last one too", 9, x.letter(4, 0));
        x.feed(0x61626364, 0x65616161, 0x62626262, 0x63636364, 0x7f000000);
        Check.due("sixteen", 16, x.tell(0, 16));
        Check.due("one behind the other", "abcdeaaabbbbcccd", Check.word(x, 0));
        // 225 is 128 more than a; numbers below 0 are bytes like all others
        x.feed(0xe1000000, 0, 0, 0, 0);
        Check.due("a byte above 127 is none of the letters", -1, x.tell(0, 1));
        x.feed(LEAST, MOST, -1, 0, 1);
        Check.due("numbers of all kinds", 20, x.count(3));
        Check.due("128 can't stand there", -11, x.system(20));
        Check.due("128 can't stand there", 0, x.fault());
    }

    private static void textOf300() {
        Check.promise(3, "A TEXT of at most 300 bytes");
        RewrittenWords x = good(threeHundred("rule aabb>bbaa;"), 1);
        Check.due("its rule", "aabb>bbaa", Check.rule(x, 0));
        bad(threeHundred("rule"), 1, 300);
        bad(threeHundred("x"), 1, 299);
        StringBuilder lines = new StringBuilder("letters 1;");
        while (lines.length() < 300) {
            lines.append("weigh a").append(1 + lines.length() % 9).append(";\n");
        }
        x = good(lines.toString(), 0);
        Check.due("all lines count", (lines.charAt(297) - '0'), x.letter(0, 0));
    }

    private static void textOfNothing() {
        Check.promise(3, "1 it can't stand there (the end, where the text can't end: its length)");
        bad("", 1, 0);
        bad(" ", 1, 1);
        bad("\n \n", 1, 3);
        RewrittenWords x = Scenes.full();
        Check.due("the first 0 bytes of 40", -11, x.system(0));
        Check.due("their length", 0, x.fault());
        Check.due("the tape is empty then", 0, x.count(3));
        Check.due("of an empty tape, too", -11, x.system(0));
    }

    private static void firstBytesAlone() {
        Check.promise(3, "The tape's first n bytes");
        String text = "letters 25;rule a>b;";
        int[] n = {9, 10, 11, 20};
        int[] want = {-11, -12, -12, -12};
        int[] place = {9, 8, 8, 8};
        for (int k = 0; k < n.length; k++) {
            RewrittenWords x = new RewrittenWords();
            Check.feed(x, text);
            int bytes = n[k];
            Check.due("of " + bytes + " bytes", want[k], x.system(bytes));
            Check.due("of " + bytes + " bytes", place[k], x.fault());
        }
        RewrittenWords x = new RewrittenWords();
        Check.feed(x, "letters 2;rule a>b;rule b>a;");
        Check.due("one rule of two", 1, x.system(19));
        Check.due("it is empty then", 0, x.count(3));
        Check.refused("it is empty then", () -> x.system(1));
    }

    private static void systemRefused() {
        Check.promise(3, "IllegalArgumentException: the tape has not so many, n below 0 (nothing changes)");
        int[] wrong = {41, 300, MOST, -1, LEAST};
        for (int n : wrong) {
            Check.changesNothingRefused("system " + n, Scenes::full, x -> x.system(n));
            Check.changesNothingRefused("20 acts, system " + n, Scenes::withTwentyActs, x -> x.system(n));
        }
        Check.changesNothingRefused("an empty tape", RewrittenWords::new, x -> x.system(1));
        RewrittenWords x = Scenes.full();
        Check.due("just so many", -11, x.system(40));
    }

    private static void systemWithAFault() {
        Check.promise(3, "-10 less the FAULT (nothing else changes)");
        String sixRules = Scenes.times("rule a>;", 6);
        String[] texts = {"letters 2;rule a", "letters 2;rule a>c;", "letters 1;" + sixRules + "rule a>;",
            "letters 2;weigh a 5;order ba;rule ab>ab;"};
        for (int k = 0; k < texts.length; k++) {
            RewrittenWords x = Scenes.withTwentyActs();
            x.tell(5, 0);
            Check.due("fault " + (k + 1), -11 - k, Check.system(x, texts[k]));
            Check.due("the tape is empty, with a fault, too", 0, x.count(3));
            RewrittenWords y = Scenes.withTwentyActs();
            y.tell(5, 0);
            Check.due("changes", "", Look.difference(Look.withoutTape(y), Look.withoutTape(x)));
        }
    }

    private static void systemStartsAnew() {
        Check.promise(3, "a SYSTEM (ACTS are gone): how many RULES");
        RewrittenWords x = Scenes.withTwentyActs();
        x.tell(5, 0);
        String said = Check.said(x);
        Check.due("none", 0, Check.system(x, "letters 3;"));
        Check.due("the tape is empty", 0, x.count(3));
        Check.due("no acts", 0, x.count(2));
        Check.due("nothing to undo", -1, x.undo());
        for (int place = 0; place < 6; place++) {
            Check.due("empty words", 0, x.word(place, 0));
            Check.due("without steps", 0, x.word(place, 8));
        }
        Check.due("what was said", said, Check.said(x));
        Check.due("weights 1, order a, b, .. again", "/a1b1c1", Check.say(x));
        Check.due("what was kept", true, x.back());
        Check.due("what was kept", "acc", Check.word(x, 1));
        Check.due("six", 6, Check.system(x, "letters 1;" + Scenes.times("rule a>;", 6)));
    }

    private static void oneToFiveLetters() {
        Check.promise(3, "K of them (1 to 5)");
        for (int k = 1; k <= 5; k++) {
            Check.due("letters", k, good("letters " + k + ";", 0).count(0));
        }
        bad("letters 0;", 2, 8);
        bad("letters 6;", 2, 8);
        bad("letters 10;", 2, 8);
        bad("letters 15;", 2, 8);
        bad("letters 00;", 2, 8);
        // 2 more than 2 to the 8th, 16th, 32nd, 64th
        bad("letters 258;", 2, 8);
        bad("letters 65538;", 2, 8);
        bad("letters 4294967298;", 2, 8);
        bad("letters 18446744073709551618;", 2, 8);
        bad("letters " + Scenes.times("9", 280) + ";", 2, 8);
    }

    private static void sidesOfOneToFour() {
        Check.promise(3, "SIDE: 1 to 4 of the LETTERS");
        good("letters 2;rule a>bbbb;", 1);
        good("letters 2;rule aaaa>b;", 1);
        good("letters 2;rule abab>baba;", 1);
        bad("letters 2;rule aaaaa>b;", 2, 15);
        bad("letters 2;rule a>bbbbb;", 2, 17);
        bad("letters 2;rule aaaa>bbbbb;", 2, 20);
        bad("letters 5;rule abcde>;", 2, 15);
        bad("letters 2;rule " + Scenes.times("ab", 100) + ">;", 2, 15);
    }

    private static void sidesOfTheLetters() {
        Check.promise(3, "2 a NUMBER, a SIDE that isn't as told");
        for (int k = 1; k <= 5; k++) {
            char last = (char) ('a' + k - 1);
            char none = (char) ('a' + k);
            good("letters " + k + ";rule " + last + ">;", 1);
            good("letters " + k + ";weigh " + last + " 2;", 0);
            bad("letters " + k + ";rule " + none + ">;", 2, 15);
            bad("letters " + k + ";rule a" + none + ">;", 2, 15);
            bad("letters " + k + ";rule a>" + none + ";", 2, 17);
            bad("letters " + k + ";rule a>a" + none + ";", 2, 17);
            bad("letters " + k + ";weigh " + none + " 2;", 2, 16);
        }
        bad("letters 5;rule z>;", 2, 15);
    }

    private static void leftIsNotEmpty() {
        Check.promise(3, "'rule' SIDE '>' (SIDE)?");
        RewrittenWords x = good("letters 2;rule a>;", 1);
        Check.due("an empty right", -1, x.side(0, true, 0));
        good("letters 2;rule a > \n ;", 1);
        bad("letters 2;rule >a;", 1, 15);
        bad("letters 2;rule >;", 1, 15);
        bad("letters 2;rule ;", 1, 15);
        bad("letters 2;rule a;", 1, 16);
        bad("letters 2;rule a b>;", 1, 17);
        bad("letters 2;rule a>b a;", 1, 19);
    }

    private static void sevenRules() {
        Check.promise(3, "3 the word of a 7th RULE");
        String six = "letters 1;" + Scenes.times("rule a>;", 6);
        good(six, 6);
        good(six + "weigh a 9;order a;", 6);
        bad(six + "rule a>;", 3, 58);
        bad(six + "rule", 3, 58);
        bad(six + "  rule 7", 3, 60);
        bad(six + "rule b>;", 3, 58);
        bad(six + "rules", 1, 58);
        bad(six + "weigh a 3;rule a>;", 3, 68);
        // the sixth one may still be wrong in another way
        bad("letters 1;" + Scenes.times("rule a>;", 5) + "rule a>a;", 4, 57);
    }

    private static void rightLikeLeft() {
        Check.promise(3, "4 a RIGHT that is its LEFT");
        bad("letters 2;rule a>a;", 4, 17);
        bad("letters 2;rule ab>ab;", 4, 18);
        bad("letters 2;rule abab > abab;", 4, 22);
        bad("letters 2;rule ab>ab", 4, 18);
        bad("letters 2;rule ab>ab 7", 4, 18);
        good("letters 2;rule ab>a;", 1);
        good("letters 2;rule ab>b;", 1);
        good("letters 2;rule ab>aba;", 1);
        good("letters 2;rule ab>ba;", 1);
        good("letters 2;rule a>b;rule b>a;", 2);
        good("letters 2;rule a>b;rule a>b;", 2);
        bad("letters 2;rule abab>ababa;", 2, 20);
    }

    private static void weightsOneToNine() {
        Check.promise(3, "'weigh' SIDE NUMBER (a SIDE of one LETTER); WEIGHT (1 to 9; 1 at first)");
        for (int weight = 1; weight <= 9; weight++) {
            RewrittenWords x = good("letters 2;weigh b " + weight + ";", 0);
            Check.due("its weight", weight, x.letter(1, 0));
            Check.due("that of the other one", 1, x.letter(0, 0));
        }
        bad("letters 2;weigh b 0;", 2, 18);
        bad("letters 2;weigh b 10;", 2, 18);
        bad("letters 2;weigh b 265;", 2, 18);
        bad("letters 2;weigh b 4294967297;", 2, 18);
        bad("letters 2;weigh ab 2;", 2, 16);
        bad("letters 2;weigh aa 2;", 2, 16);
        bad("letters 2;weigh 2;", 1, 16);
        bad("letters 2;weigh b;", 1, 17);
        bad("letters 2;weigh b 2 2;", 1, 20);
    }

    private static void ordersOfAllLetters() {
        Check.promise(3, "'order' SIDE (all LETTERS, each once)");
        String[] rows = {"a", "ba", "cab", "dbca", "edcba"};
        for (int k = 0; k < 5; k++) {
            String text = "letters " + (k + 1) + ";order ";
            RewrittenWords x = good(text + rows[k] + ";", 0);
            for (int where = 0; where <= k; where++) {
                Check.due("in order", where, x.letter(rows[k].charAt(where) - 'a', 1));
            }
            bad(text + rows[k] + "a;", 2, 16);
            bad(text + Scenes.times("a", k + 2) + ";", 2, 16);
            if (k > 0) {
                bad(text + rows[k].substring(1) + ";", 2, 16);
                bad(text + rows[k].substring(1) + rows[k].charAt(1) + ";", 2, 16);
                bad(text + rows[k].substring(1) + (char) ('b' + k) + ";", 2, 16);
            }
            bad(text + ";", 1, 16);
        }
        for (int letters = 2; letters <= 4; letters++) {
            everyRow("letters " + letters + ";order ", "", letters);
        }
    }

    /** Of all rows of as many LETTERS as there are those with each once are good. */
    private static void everyRow(String text, String row, int letters) {
        if (row.length() == letters) {
            if (row.chars().distinct().count() == letters) {
                good(text + row + ";", 0);
            } else {
                bad(text + row + ";", 2, 16);
            }
            return;
        }
        for (char letter = 'a'; letter < 'a' + letters; letter++) {
            everyRow(text, row + letter, letters);
        }
    }

    private static void wordsOfTheGrammar() {
        Check.promise(3, "1 it can't stand there; 'letters', 'rule', 'weigh', 'order'");
        String[] texts = {"letters 2;", "letters 2;rule a>b;", "letters 2;weigh a 2;", "letters 2;order ba;"};
        int[] from = {0, 10, 10, 10};
        int[] to = {7, 14, 15, 15};
        for (int k = 0; k < texts.length; k++) {
            good(texts[k], k == 1 ? 1 : 0);
            for (int where = from[k]; where < to[k]; where++) {
                String ahead = texts[k].substring(0, where);
                String behind = texts[k].substring(where + 1);
                char sign = texts[k].charAt(where);
                bad(ahead + (char) (sign + 1) + behind, 1, from[k]);
                bad(ahead + (char) (sign - 1) + behind, 1, from[k]);
                bad(ahead + sign + sign + behind, 1, from[k]);
                bad(ahead + behind, 1, from[k]);
                bad(ahead + (char) (sign - 32) + behind, 1, from[k]);
            }
        }
    }

    private static void laterOnesCount() {
        Check.promise(3, "Later ones of weigh, order count in place of earlier ones");
        RewrittenWords x = good("letters 3;weigh a 9;order cba;weigh b 4;weigh a 1;order bac;", 0);
        Check.due("the later ones", "/b4a1c1", Check.say(x));
    }

    private static void whereATextCanEnd() {
        Check.promise(3, "the end, where the text can't end: its length");
        String text = "letters 2;rule ab>b;weigh a 3;order ba;";
        // of each number of bytes where the fault is; -1: the text can end there
        int[] places = {0, 0, 0, 0, 0, 0, 0, 7, 8, 9, -1, 10, 10, 10, 14, 15, 16, 17, 18, 19, -1,
            20, 20, 20, 20, 25, 26, 27, 28, 29, -1, 30, 30, 30, 30, 35, 36, 36, 38, -1};
        for (int n = 0; n <= text.length(); n++) {
            if (places[n] >= 0) {
                // one letter of two is no order
                bad(text.substring(0, n), n == 37 ? 2 : 1, places[n]);
            } else {
                good(text.substring(0, n), n < 20 ? 0 : 1);
                good(text.substring(0, n) + " \n\n ", n < 20 ? 0 : 1);
            }
        }
        bad("letters 2 \n", 1, 11);
        bad("letters 2;rule a> \n", 1, 19);
    }

    private static void everyByteBehindANumber() {
        Check.promise(3, "a row of figures likewise; any other byte but blanks (32, 10) by itself");
        for (int sign = 0; sign < 256; sign++) {
            String text = "letters 2" + (char) sign + ";";
            if (sign == ' ' || sign == '\n') {
                good(text, 0);
            } else if (sign >= '0' && sign <= '9') {
                bad(text, 2, 8);
            } else {
                bad(text, 1, sign == ';' ? 10 : 9);
            }
        }
    }

    private static void everyByteBehindARow() {
        Check.promise(3, "a row of small letters, as long as it goes on");
        for (int sign = 0; sign < 256; sign++) {
            String text = "letters 2;rule a" + (char) sign + ">b;";
            if (sign == ' ' || sign == '\n' || sign == 'a' || sign == 'b') {
                good(text, 1);
            } else if (sign >= 'c' && sign <= 'z') {
                bad(text, 2, 15);
            } else {
                bad(text, 1, sign == '>' ? 17 : 16);
            }
        }
        good("letters2;rule a>b;", 1);
        good("letters\n2 ;rule\na > b ; ", 1);
        bad("letters 2;rulea>b;", 1, 10);
        bad("let ters 2;", 1, 0);
        bad("letters 2;ru le a>b;", 1, 10);
    }

    private static void firstTokenFirstFault() {
        Check.promise(3, "at the first TOKEN at which one of these is so it is that (the first one of this list)");
        bad("letters 9;rule", 2, 8);
        bad("letters 2;rule c>a;rule a>a;", 2, 15);
        bad("letters 2;rule a>a;rule c>a;", 4, 17);
        bad("letters 2;rule a:a>c;", 1, 16);
        // a number and a side that would be wrong can't stand there at all
        bad("letters 2;rule 9>a;", 1, 15);
        bad("letters 2;weigh a c;", 1, 18);
        bad("letters c;", 1, 8);
        bad("letters 2;order 3;", 1, 16);
        bad("letters 2 9;", 1, 10);
        bad("letters 2;letters 2;", 1, 10);
        bad("letters 2;;", 1, 10);
        bad("rule a>b;", 1, 0);
    }

    private static void placesOfFaults() {
        Check.promise(4, "The place of the latest FAULT");
        bad("x", 1, 0);
        bad("  letters  7;", 2, 11);
        bad(threeHundred("letters"), 1, 293);
        bad(threeHundred("rule a>"), 1, 300);
        bad(threeHundred("rule a>c"), 2, 299);
        bad(threeHundred("rule abb>abb"), 4, 297);
    }

    private static void faultOfTheLatest() {
        Check.promise(4, "of system() (that was no IllegalArgumentException); NONE: it had none, or there was none");
        RewrittenWords x = new RewrittenWords();
        Check.due("there was none", -1, x.fault());
        Check.refused("refused", () -> x.system(1));
        Check.due("there was none", -1, x.fault());
        Check.system(x, "letters 2;rule");
        Check.due("a fault", 14, x.fault());
        Check.refused("refused", () -> x.system(1));
        Check.refused("refused", () -> x.system(-1));
        Check.due("stays", 14, x.fault());
        x.system(0);
        Check.due("the latest one", 0, x.fault());
        Check.due("no fault of tell()", -1, Check.tell(x, 0, "?"));
        Check.due("stays", 0, x.fault());
        Check.system(x, "letters 2;");
        Check.due("it had none", -1, x.fault());
        Check.refused("refused", () -> x.system(1));
        Check.due("it had none", -1, x.fault());
    }

    private static void counts() {
        Check.promise(5, "NoSuchElementException: another what");
        int[] wrong = {-1, 7, LEAST, MOST};
        for (int what : wrong) {
            Check.changesNothingMissing("count " + what, Scenes::full, x -> x.count(what));
        }
        RewrittenWords x = Scenes.full();
        // overlaps: ccc, bba, bbb
        int[] want = {3, 3, 5, 40, 3, 0, 3};
        for (int what = 0; what <= 6; what++) {
            Check.due("count " + what, want[what], x.count(what));
        }
    }

    private static void countsAtTheirBounds() {
        Check.promise(5, "1 RULES, 2 ACTS that are kept, 3 bytes of the tape, .. 6 RULES that FALL");
        RewrittenWords x = twelveRules();
        Check.due("12 rules", 12, x.count(1));
        Check.due("12 that fall", 12, x.count(6));
        x.close(1);
        Check.due("no 13th", 12, x.count(1));
        for (int k = x.count(2) + 1; k <= 20; k++) {
            x.tell(0, 0);
            Check.due("acts", k, x.count(2));
        }
        x.tell(0, 0);
        Check.due("no 21st act", 20, x.count(2));
        for (int k = 1; k <= 15; k++) {
            x.feed(0, 0, 0, 0, 0);
            Check.due("bytes", 20 * k, x.count(3));
        }
        RewrittenWords y = Check.with("letters 2;rule a>b;rule ba>ab;rule a>ba;");
        Check.due("overlaps: a by 0 and 2, ba by 1 and 0, by 1 and 2", 3, y.count(4));
        Check.due("that don't close: to b and bb, to bb and bbb", 2, y.count(5));
        Check.due("one falls", 1, y.count(6));
    }

    /** All FALL; two were told, ten were added. */
    private static RewrittenWords twelveRules() {
        RewrittenWords x = Check.with("letters 2;weigh b 2;rule bb>baa;");
        Check.due("ten come", 10, x.close(10));
        Check.due("one comes", 1, x.close(10));
        return x;
    }

    private static void sides() {
        Check.promise(6, "NONE behind the last one. NoSuchElementException: no such RULE, k is below 0");
        RewrittenWords x = Check.with("letters 2;rule abba>b;rule b>;");
        Check.due("the last of left", 0, x.side(0, false, 3));
        Check.due("behind it", -1, x.side(0, false, 4));
        Check.due("the last of right", 1, x.side(0, true, 0));
        Check.due("behind it", -1, x.side(0, true, 1));
        Check.due("of an empty one", -1, x.side(1, true, 0));
        Check.due("far behind", -1, x.side(1, false, MOST));
        Check.due("far behind", -1, x.side(0, true, 16));
        Check.due("far behind", -1, x.side(0, true, 22));
        int[] wrong = {-1, 2, 3, 11, 12, LEAST, MOST};
        for (int rule : wrong) {
            Check.missing("rule " + rule, () -> x.side(rule, false, 0));
            Check.missing("rule " + rule, () -> x.side(rule, true, 9));
        }
        Check.missing("k -1", () -> x.side(0, false, -1));
        Check.missing("k -1", () -> x.side(0, true, -1));
        Check.missing("k least", () -> x.side(1, true, LEAST));
        Check.due("nothing changes", "abba>b,b>/a1b1", Check.say(x));
    }

    private static void sidesOfTwelveRules() {
        Check.promise(6, "A RULE (12 at most, numbered from 0 on)");
        RewrittenWords x = twelveRules();
        Check.due("rule 0", "bb>baa", Check.rule(x, 0));
        Check.due("rule 11 has a left", 1, x.side(11, false, 0));
        Check.missing("rule 12", () -> x.side(12, false, 0));
    }

    private static void sidesOfSixteen() {
        Check.promise(6, "A WORD is a row of 0 to 16 LETTERS");
        RewrittenWords x = twelveRules();
        Check.due("both sides have 16", "baaaaaaaaaaaabaa>baaaaaaaaaaaaaab", Check.rule(x, 7));
        Check.due("letter 15", 0, x.side(7, false, 15));
        Check.due("letter 15", 1, x.side(7, true, 15));
        Check.due("letter 16", -1, x.side(7, false, 16));
        Check.due("letter 16", -1, x.side(7, true, 16));
    }

    private static void letters() {
        Check.promise(7, "NoSuchElementException: no such LETTER, another what");
        for (int k = 1; k <= 5; k++) {
            RewrittenWords x = Check.with("letters " + k + ";");
            int last = k - 1;
            int none = k;
            for (int what = 0; what <= 2; what++) {
                int of = what;
                Check.due("the last letter", what == 1 ? last : 1, x.letter(last, of));
                Check.missing("the letter behind it", () -> x.letter(none, of));
                Check.missing("letter -1", () -> x.letter(-1, of));
                Check.missing("letter least", () -> x.letter(LEAST, of));
                Check.missing("letter most", () -> x.letter(MOST, of));
            }
            int[] wrong = {-1, 3, LEAST, MOST};
            for (int what : wrong) {
                Check.missing("what " + what, () -> x.letter(0, what));
            }
        }
        // five letters were there once
        RewrittenWords x = Check.with("letters 5;weigh e 9;");
        Check.system(x, "letters 2;");
        Check.missing("a letter that was", () -> x.letter(2, 0));
        Check.missing("a letter that was", () -> x.letter(4, 1));
    }

    private static String least(String text) {
        RewrittenWords x = Check.with(text);
        StringBuilder row = new StringBuilder();
        for (int letter = 0; letter < x.count(0); letter++) {
            row.append(x.letter(letter, 2)).append(' ');
        }
        return row.toString();
    }

    private static void leastWeightsUpToFive() {
        Check.promise(7, "2 its WEIGHT by LEAST WEIGHTS (NONE: none): WEIGHTS 1 to 5 of all LETTERS");
        Check.due("without rules", "1 1 1 1 1 ", least("letters 5;"));
        Check.due("5 is enough", "1 5 ", least("letters 2;rule b>aaaa;"));
        Check.due("6 would be", "-1 -1 -1 ", least("letters 3;rule b>aaaa;rule c>b;"));
        Check.due("just 5", "1 4 5 ", least("letters 3;rule b>aaa;rule c>b;"));
        Check.due("all five", "5 4 3 2 1 ", least("letters 5;rule a>b;rule b>c;rule c>d;rule d>e;"));
        Check.due("6 and more of two", "-1 -1 ", least("letters 2;rule a>bbbb;rule aa>bbbb;rule b>a;"));
        Check.due("just as much is not more", "-1 -1 ", least("letters 2;rule ab>ba;"));
        Check.due("an empty right is always less", "1 ", least("letters 1;rule a>;"));
        Check.due("one less of the same", "1 ", least("letters 1;rule aaaa>aaa;"));
        Check.due("one more of the same", "-1 ", least("letters 1;rule aaa>aaaa;"));
        Check.due("the least first, then the least second", "1 2 1 ", least("letters 3;rule ab>cc;"));
        Check.due("whatever the weights are", "1 2 ", least("letters 2;weigh a 9;rule b>a;"));
    }

    private static void sayNothing() {
        Check.promise(25, "of each RULE LEFT, >, RIGHT, commas between; then /");
        Check.due("no rules", "/a1b1", Check.say(new RewrittenWords()));
        Check.due("one letter", "/a9", Check.say(Check.with("letters 1;weigh a 9;")));
        Check.due("one rule", "a>/a1", Check.say(Check.with("letters 1;rule a>;")));
        Check.due("two rules", "a>,aa>a/a1", Check.say(Check.with("letters 1;rule a>;rule aa>a;")));
        Check.due("five letters", "e>abcd/e1d1c1b1a1", Check.say(Check.with("letters 5;order edcba;rule e>abcd;")));
    }

    private static void sayTwelveRules() {
        Check.promise(25, "how many bytes");
        RewrittenWords x = twelveRules();
        StringBuilder want = new StringBuilder();
        for (int rule = 0; rule < 12; rule++) {
            want.append(rule > 0 ? "," : "").append(Check.rule(x, rule));
        }
        want.append("/a1b2");
        RewrittenWords y = twelveRules();
        int length = want.length();
        Check.due("how many", length, y.say());
        Check.due("the last one", (int) '2', y.said(length - 1));
        Check.due("none behind", -1, y.said(length));
        Check.due("all rules", want.toString(), Check.said(y));
    }

    private static void saidAtItsBounds() {
        Check.promise(26, "NONE: there is none such, nothing was SAID");
        RewrittenWords x = Check.with("letters 2;rule a>b;");
        int[] places = {0, 1, 7, -1, LEAST, MOST};
        for (int i : places) {
            Check.due("nothing was said", -1, x.said(i));
        }
        Check.due("say", 8, x.say());
        Check.due("the first", (int) 'a', x.said(0));
        Check.due("the last", (int) '1', x.said(7));
        Check.due("behind it", -1, x.said(8));
        Check.due("ahead of the first", -1, x.said(-1));
        Check.due("least", -1, x.said(LEAST));
        Check.due("most", -1, x.said(MOST));
        Check.due("430", -1, x.said(430));
    }

    private static void saidBehindAShorterOne() {
        Check.promise(26, "Byte i of what the latest say() SAID");
        RewrittenWords x = Check.with("letters 2;rule abab>baba;");
        Check.due("a long one", 14, x.say());
        Check.system(x, "letters 1;");
        Check.due("a short one", 3, x.say());
        Check.due("its last", (int) '1', x.said(2));
        for (int i = 3; i < 15; i++) {
            Check.due("nothing of the long one", -1, x.said(i));
        }
    }

    private static void saidWhateverCame() {
        Check.promise(26, "as it was then, whatever came since");
        RewrittenWords x = Check.with("letters 3;rule ab>c;rule ba>;");
        x.say();
        String said = "ab>c,ba>/a1b1c1";
        x.close(10);
        Check.due("closed", said, Check.said(x));
        x.tidy();
        Check.due("tidied", said, Check.said(x));
        x.undo();
        Check.due("undone", said, Check.said(x));
        x.image();
        Check.tell(x, 0, "ab");
        x.back();
        Check.due("back", said, Check.said(x));
        Check.system(x, "letters 9;");
        Check.due("a fault", said, Check.said(x));
        Check.system(x, "letters 1;");
        Check.due("another system", said, Check.said(x));
    }
}

/** Promises 1 to 7, 25 and 26: a new object, the tape, the text of a system, what it holds, what is said. */
public final class SystemTest {
    public static void main(String[] args) {
        newObject();
        feeding();
        system();
        systemTexts();
        faults();
        faultStays();
        counting();
        sides();
        letters();
        leastWeights();
        saying();
        Check.end("SystemTest");
    }

    private static void newObject() {
        RewrittenWords x = new RewrittenWords();
        Check.due("new: letters", 2, x.count(0));
        Check.due("new: rules", 0, x.count(1));
        Check.due("new: acts", 0, x.count(2));
        Check.due("new: tape", 0, x.count(3));
        for (int place = 0; place < 6; place++) {
            Check.due("new: word", "", Check.word(x, place));
            Check.due("new: derivation", 0, x.word(place, 8));
        }
        Check.due("new: fault", -1, x.fault());
        Check.due("new: said", -1, x.said(0));
        Check.due("new: back", false, x.back());
        Check.due("new: say", "/a1b1", Check.say(x));
    }

    private static void feeding() {
        RewrittenWords x = new RewrittenWords();
        for (int k = 1; k <= 15; k++) {
            Check.due("feed", 20 * k, x.feed(0x61626162, 0, 0, 0, -1));
        }
        Check.due("feed more than 300", -1, x.feed(0, 0, 0, 0, 0));
        Check.due("and none come", 300, x.count(3));
        Check.due("the highest byte first", 4, x.tell(0, 4));
        Check.due("the highest byte first", "abab", Check.word(x, 0));
        Check.due("the tape is empty then", 0, x.count(3));
        x.feed(0x62616161, 0x61616161, 0x62626262, 0x61616161, 0x61616162);
        Check.due("numbers one behind the other", 16, x.tell(0, 16));
        Check.due("numbers one behind the other", "baaaaaaabbbbaaaa", Check.word(x, 0));
        x.feed(0x6c657474, 0x65727320, 0x323b7fff, -1, -1);
        Check.due("a byte above 127", -11, x.system(20));
        Check.due("a byte above 127", 10, x.fault());
    }

    private static void system() {
        RewrittenWords x = new RewrittenWords();
        Check.refused("system(1), empty tape", () -> x.system(1));
        Check.refused("system(-1)", () -> x.system(-1));
        Check.feed(x, "letters 3;rule a>b;rule b>;");
        Check.refused("system(41) of 40", () -> x.system(41));
        Check.refused("system(-1) of 40", () -> x.system(-1));
        Check.due("nothing changed", 40, x.count(3));
        Check.due("the first n bytes alone", 1, x.system(19));
        Check.due("the tape is empty", 0, x.count(3));
        Check.due("letters", 3, x.count(0));
        Check.tell(x, 0, "abc");
        Check.tell(x, 3, "abc");
        x.make(3, 0);
        Check.due("acts", 3, x.count(2));
        Check.due("a fault", -11, Check.system(x, "letters"));
        Check.due("a fault: the tape is empty", 0, x.count(3));
        Check.due("a fault: nothing else changes", "bbc", Check.word(x, 3));
        Check.due("a fault: acts stay", 3, x.count(2));
        Check.due("a fault: rules stay", "a>b", Check.rule(x, 0));
        Check.due("another system", 2, Check.system(x, "letters 2;rule b>a;rule ab>;"));
        Check.due("another system: acts are gone", 0, x.count(2));
        Check.due("another system: undo", -1, x.undo());
        Check.due("another system: words are empty", "", Check.word(x, 0) + Check.word(x, 3));
        Check.due("another system: no steps", 0, x.word(3, 8));
        Check.due("another system: weights and order", "b>a,ab>/a1b1", Check.say(x));
    }

    private static void systemTexts() {
        said("letters 1;", "/a1");
        said("letters 05;", "/a1b1c1d1e1");
        said(" letters\n3 ;\n", "/a1b1c1");
        said("letters2;rule a>b;", "a>b/a1b1");
        said("letters 2;rule abab>baba;rule a > ; rule a>;", "abab>baba,a>,a>/a1b1");
        said("letters 2;weigh a9;weigh b 5;weigh a007;", "/a7b5");
        said("letters 5;order edcba;order badce;", "/b1a1d1c1e1");
        said("letters 5;rule e>a;weigh e2;order eabcd;rule a>e;", "e>a,a>e/e2a1b1c1d1");
        said("letters 1;rule a>;rule a>;rule a>;rule a>;rule a>;rule a>;", "a>,a>,a>,a>,a>,a>/a1");
    }

    private static void said(String text, String want) {
        RewrittenWords x = Check.with("letters 3;weigh b4;order cba;rule c>;");
        Check.due(text, want.length() - want.replace(">", "").length(), Check.system(x, text));
        Check.due(text + " fault", -1, x.fault());
        Check.due(text, want, Check.say(x));
    }

    private static void faults() {
        fault("", 1, 0);
        fault("  \n", 1, 3);
        fault("letter 2;", 1, 0);
        fault(" lettersx 2;", 1, 1);
        fault("betters 2;", 1, 0);
        fault("2;", 1, 0);
        fault("letters", 1, 7);
        fault("letters ;", 1, 8);
        fault("letters a;", 1, 8);
        fault("letters 0;", 2, 8);
        fault("letters 6;", 2, 8);
        fault("letters 10000000000001;", 2, 8);
        fault("letters 2", 1, 9);
        fault("letters 2 :", 1, 10);
        fault("letters 2;;", 1, 10);
        fault("letters 2;ruler a>b;", 1, 10);
        fault("letters 2;Rule a>b;", 1, 10);
        fault("letters 2;\trule a>b;", 1, 10);
        fault("letters 2;letters 2;", 1, 10);
        fault("letters 2;rule", 1, 14);
        fault("letters 2;rule >a;", 1, 15);
        fault("letters 2;rule 1>a;", 1, 15);
        fault("letters 2;rule c>a;", 2, 15);
        fault("letters 2;rule rule>a;", 2, 15);
        fault("letters 2;rule az>a;", 2, 15);
        fault("letters 2;rule a{>a;", 1, 16);
        fault("letters 2;rule a`>a;", 1, 16);
        fault("letters 2;weigh a 1:;", 1, 19);
        fault("letters 2;weigh a 1/;", 1, 19);
        fault("letters 2;rule ababa>a;", 2, 15);
        fault("letters 2;rule a b>a;", 1, 17);
        fault("letters 2;rule a", 1, 16);
        fault("letters 2;rule a>", 1, 17);
        fault("letters 2;rule a>7;", 1, 17);
        fault("letters 2;rule a>>;", 1, 17);
        fault("letters 2;rule a>c;", 2, 17);
        fault("letters 2;rule a>babab;", 2, 17);
        fault("letters 2;rule a>a;", 4, 17);
        fault("letters 2;rule ab> ab", 4, 19);
        fault("letters 2;rule a>b", 1, 18);
        fault("letters 2;rule a>b b;", 1, 19);
        fault("letters 2;weigh", 1, 15);
        fault("letters 2;weigh 3", 1, 16);
        fault("letters 2;weigh ab 3;", 2, 16);
        fault("letters 2;weigh c 3;", 2, 16);
        fault("letters 2;weigh a;", 1, 17);
        fault("letters 2;weigh a b;", 1, 18);
        fault("letters 2;weigh a 0;", 2, 18);
        fault("letters 2;weigh a 10;", 2, 18);
        fault("letters 2;weigh a 9", 1, 19);
        fault("letters 2;weigh a 9 9;", 1, 20);
        fault("letters 2;order;", 1, 15);
        fault("letters 2;order a;", 2, 16);
        fault("letters 2;order aa;", 2, 16);
        fault("letters 2;order ac;", 2, 16);
        fault("letters 2;order aba;", 2, 16);
        fault("letters 2;order ab", 1, 18);
        fault("letters 1;rule a>;rule a>;rule a>;rule a>;rule a>;rule a>;rule", 3, 58);
        fault("letters 1;rule a>;rule a>;rule a>;rule a>;rule a>;rule a>;rules", 1, 58);
        fault("letters 2;rule a>c;rule a>a;", 2, 17);
    }

    private static void fault(String text, int fault, int place) {
        RewrittenWords x = new RewrittenWords();
        Check.due("fault of " + text, -10 - fault, Check.system(x, text));
        Check.due("place of " + text, place, x.fault());
    }

    private static void faultStays() {
        RewrittenWords x = new RewrittenWords();
        Check.system(x, "letters 9;");
        Check.due("a fault", 8, x.fault());
        Check.refused("system(1)", () -> x.system(1));
        Check.due("stays with an exception", 8, x.fault());
        x.image();
        Check.system(x, "letters");
        Check.due("the latest one", 7, x.fault());
        x.back();
        Check.due("stays with back()", 7, x.fault());
        Check.system(x, "letters 1;");
        Check.due("gone with a system", -1, x.fault());
    }

    private static void counting() {
        RewrittenWords x = Check.with("letters 3;rule ab>c;rule ba>;rule c>aaa;");
        Check.due("letters", 3, x.count(0));
        Check.due("rules", 3, x.count(1));
        Check.due("acts", 0, x.count(2));
        Check.feed(x, "ab");
        Check.due("tape", 20, x.count(3));
        x.tell(0, 2);
        Check.due("acts", 1, x.count(2));
        // aba by both, bab by both
        Check.due("overlaps", 2, x.count(4));
        // c>aaa never ends: runs by way 0 from ca, a and from b, bc
        Check.due("that don't close", 2, x.count(5));
        Check.due("that fall", 2, x.count(6));
        Check.missing("count(7)", () -> x.count(7));
        Check.missing("count(-1)", () -> x.count(-1));
        for (int k = 0; k < 25; k++) {
            x.tell(0, 0);
        }
        Check.due("20 acts at most", 20, x.count(2));
    }

    private static void sides() {
        RewrittenWords x = Check.with("letters 3;rule abca>cb;rule b>;");
        Check.due("rule 0", "abca>cb", Check.rule(x, 0));
        Check.due("rule 1", "b>", Check.rule(x, 1));
        Check.due("behind the last one", -1, x.side(0, false, 4));
        Check.due("behind the last one", -1, x.side(0, true, 2));
        Check.due("far behind", -1, x.side(0, false, Integer.MAX_VALUE));
        Check.due("an empty one", -1, x.side(1, true, 0));
        Check.missing("no such rule", () -> x.side(2, false, 0));
        Check.missing("no such rule", () -> x.side(-1, false, 0));
        Check.missing("k below 0", () -> x.side(0, true, -1));
    }

    private static void letters() {
        RewrittenWords x = Check.with("letters 3;weigh b 9;order cab;");
        Check.due("weight a", 1, x.letter(0, 0));
        Check.due("weight b", 9, x.letter(1, 0));
        Check.due("a in order", 1, x.letter(0, 1));
        Check.due("b in order", 2, x.letter(1, 1));
        Check.due("c in order", 0, x.letter(2, 1));
        Check.missing("no such letter", () -> x.letter(3, 0));
        Check.missing("no such letter", () -> x.letter(-1, 0));
        Check.missing("another what", () -> x.letter(0, 3));
        Check.missing("another what", () -> x.letter(0, -1));
    }

    private static void leastWeights() {
        least("letters 3;", "1 1 1 ");
        least("letters 3;weigh a 7;rule a>b;", "2 1 1 ");
        least("letters 3;rule c>b;rule b>aa;", "1 3 4 ");
        least("letters 2;rule a>b;rule b>a;", "-1 -1 ");
        least("letters 2;rule ab>ba;", "-1 -1 ");
        least("letters 2;rule b>aaaa;", "1 5 ");
        least("letters 3;rule c>aaaa;rule b>c;", "-1 -1 -1 ");
        least("letters 5;rule a>b;rule b>c;rule c>d;rule d>e;", "5 4 3 2 1 ");
        least("letters 3;rule ab>cc;", "1 2 1 ");
        least("letters 1;rule a>;", "1 ");
        RewrittenWords x = Check.with("letters 2;rule aab>b;rule aba>bb;");
        Check.due("least by the rules of now", 1, x.letter(0, 2));
        Check.system(x, "letters 2;rule a>b;");
        Check.due("least by the rules of now", 2, x.letter(0, 2));
    }

    private static void least(String text, String want) {
        RewrittenWords x = Check.with(text);
        StringBuilder row = new StringBuilder();
        for (int letter = 0; letter < x.count(0); letter++) {
            row.append(x.letter(letter, 2)).append(' ');
        }
        Check.due("least weights of " + text, want, row.toString());
    }

    private static void saying() {
        RewrittenWords x = Check.with("letters 3;rule ab>c;rule ba>;weigh b 9;order cab;");
        Check.due("nothing was said", -1, x.said(0));
        Check.due("how many bytes", 15, x.say());
        Check.due("said", "ab>c,ba>/c1a1b9", Check.said(x));
        Check.due("below", -1, x.said(-1));
        Check.due("behind", -1, x.said(15));
        x.image();
        Check.system(x, "letters 1;rule aa>a;");
        Check.due("as it was then", "ab>c,ba>/c1a1b9", Check.said(x));
        Check.due("said anew", "aa>a/a1", Check.say(x));
        x.back();
        Check.due("the latest say(), whatever came since", "aa>a/a1", Check.said(x));
        Check.due("said anew", "ab>c,ba>/c1a1b9", Check.say(x));
    }
}

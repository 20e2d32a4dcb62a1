/** Objects with much in them that a refused call could spoil. */
final class Scenes {
    private Scenes() {
    }

    /** Something is kept and SAID, there was a FAULT at 8, 5 ACTS are kept, the tape has 40 bytes. */
    static RewrittenWords full() {
        RewrittenWords x = Check.with("letters 3;weigh c 2;rule cc>c;");
        Check.tell(x, 1, "accc");
        x.make(1, 0);
        x.image();
        x.say();
        Check.system(x, "letters 3;rule ba>ab;rule cc>c;rule bb>;weigh a 2;order cab;");
        Check.system(x, "letters 7;");
        Check.tell(x, 0, "bbaa");
        x.make(0, 0);
        Check.tell(x, 1, "cccc");
        x.go(1, 1);
        Check.tell(x, 5, "abcabcabcabcabba");
        Check.feed(x, "abcabcabcabcabcabcabcabcabc");
        return x;
    }

    /** As many ACTS as can be kept: one more lets the first one go. */
    static RewrittenWords withTwentyActs() {
        RewrittenWords x = full();
        for (int k = 0; k < 16; k++) {
            x.take(2, k % 2, 0);
        }
        return x;
    }

    /** PLACE 0 has a DERIVATION of 40 STEPS, more could be made. */
    static RewrittenWords withFortySteps() {
        RewrittenWords x = Check.with("letters 2;rule a>b;rule b>a;");
        Check.tell(x, 0, "a");
        for (int k = 0; k < 40; k++) {
            x.make(0, 0);
        }
        return x;
    }

    /** The last RULE doesn't FALL, the first two could be TIDIED and CLOSED. */
    static RewrittenWords withARise() {
        RewrittenWords x = Check.with("letters 3;rule aba>c;rule ba>;rule a>bb;");
        Check.tell(x, 0, "aba");
        x.make(0, 0);
        Check.feed(x, "ab");
        return x;
    }

    static String times(String part, int times) {
        StringBuilder row = new StringBuilder();
        for (int k = 0; k < times; k++) {
            row.append(part);
        }
        return row.toString();
    }
}

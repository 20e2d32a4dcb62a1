import java.util.NoSuchElementException;
import java.util.TreeSet;

/** What the tests share: answers that are due, exceptions that are due, texts fed to an object. */
final class Check {
    interface Call {
        Object answer();
    }

    private static int wrong = 0;
    private static int asked = 0;
    private static String sentence = "";
    private static final TreeSet<Integer> PROMISES = new TreeSet<>();

    private Check() {
    }

    /** The sentence of the document by which the answers are due from now on; it is told with wrong ones. */
    static void promise(int number, String words) {
        sentence = "Promise " + number + ", '" + words + "': ";
        PROMISES.add(number);
    }

    /** That promise() named all of these. */
    static void promisesFrom(int first, int last) {
        sentence = "";
        for (int number = first; number <= last; number++) {
            due("a test for promise " + number, true, PROMISES.contains(number));
        }
    }

    /** An exception is told by its class's simple name. */
    static Object of(Call call) {
        try {
            return call.answer();
        } catch (RuntimeException e) {
            return e.getClass().getSimpleName();
        }
    }

    static void due(String what, Object want, Call call) {
        asked++;
        Object got = of(call);
        if (!want.equals(got)) {
            wrong++;
            System.out.println(sentence + what + ": " + got + ", due is " + want);
        }
    }

    static void due(String what, Object want, Object got) {
        due(what, want, () -> got);
    }

    static void missing(String what, Call call) {
        due(what, NoSuchElementException.class.getSimpleName(), call);
    }

    static void refused(String what, Call call) {
        due(what, IllegalArgumentException.class.getSimpleName(), call);
    }

    interface Maker {
        RewrittenWords made();
    }

    interface CallOf {
        Object answer(RewrittenWords x);
    }

    /** A call that changes nothing: what it answers, and that the object looks like one without the call. */
    static void changesNothing(String what, Object want, Maker maker, CallOf call) {
        RewrittenWords x = maker.made();
        due(what, want, () -> call.answer(x));
        due(what + ": changes", "", Look.difference(Look.at(maker.made()), Look.at(x)));
    }

    static void changesNothingRefused(String what, Maker maker, CallOf call) {
        changesNothing(what, IllegalArgumentException.class.getSimpleName(), maker, call);
    }

    static void changesNothingMissing(String what, Maker maker, CallOf call) {
        changesNothing(what, NoSuchElementException.class.getSimpleName(), maker, call);
    }

    /** Feeds a text, with blanks behind it; the object's tape is empty. */
    static void feed(RewrittenWords x, String text) {
        for (int from = 0; from < text.length(); from += 20) {
            int[] numbers = new int[5];
            for (int k = 0; k < 20; k++) {
                int sign = from + k < text.length() ? text.charAt(from + k) : ' ';
                numbers[k / 4] |= sign << (24 - 8 * (k % 4));
            }
            x.feed(numbers[0], numbers[1], numbers[2], numbers[3], numbers[4]);
        }
    }

    static int system(RewrittenWords x, String text) {
        feed(x, text);
        return x.system(text.length());
    }

    static RewrittenWords with(String text) {
        RewrittenWords x = new RewrittenWords();
        int rules = system(x, text);
        if (rules < 0) {
            due("system " + text, "a SYSTEM", rules);
        }
        return x;
    }

    static int tell(RewrittenWords x, int place, String word) {
        feed(x, word);
        return x.tell(place, word.length());
    }

    interface Row {
        int letter(int k);
    }

    /** Each is asked for but once: an object has no more than 512 calls. */
    private static String row(Row row, int first) {
        StringBuilder text = new StringBuilder();
        for (int k = 0, letter = row.letter(0); letter != RewrittenWords.NONE; letter = row.letter(++k)) {
            text.append((char) (first + letter));
        }
        return text.toString();
    }

    static String word(RewrittenWords x, int place) {
        return row(k -> x.at(place, k), 'a');
    }

    static String rule(RewrittenWords x, int rule) {
        return row(k -> x.side(rule, false, k), 'a') + ">" + row(k -> x.side(rule, true, k), 'a');
    }

    static String head(RewrittenWords x, int rule) {
        return row(k -> x.head(rule, false, k), 'a') + ">" + row(k -> x.head(rule, true, k), 'a');
    }

    /** What say() SAYS. */
    static String say(RewrittenWords x) {
        int length = x.say();
        String row = said(x);
        due("say() and said()", length, row.length());
        return row;
    }

    static String said(RewrittenWords x) {
        return row(x::said, 0);
    }

    static void end(String test) {
        System.out.println(test + ": " + asked + " answers, " + wrong + " wrong");
        if (wrong > 0) {
            System.exit(1);
        }
    }
}

import java.util.Random;

/** Long runs of calls, with a fixed seed, asked of RewrittenWords and of the plain model alike. */
public final class AgainstPlainModelTest {
    private static final int RUNS = 500;
    /** An object has no more; the dearest turn, the text of a system, makes 18 of them. */
    private static final int CALLS = 512;
    private static final int CALLS_OF_A_TURN = 18;
    private static int calls;
    private static Random random;
    private static RewrittenWords x;
    private static PlainModel y;
    private static StringBuilder told;
    private static String letters;

    public static void main(String[] args) {
        int first = args.length > 0 ? Integer.parseInt(args[0]) : 0;
        int runs = args.length > 1 ? Integer.parseInt(args[1]) : RUNS;
        for (int run = first; run < first + runs; run++) {
            random = new Random(run);
            x = new RewrittenWords();
            y = new PlainModel();
            told = new StringBuilder("run " + run);
            letters = "ab";
            calls = 0;
            while (calls + CALLS_OF_A_TURN <= CALLS) {
                if (!oneTurn()) {
                    System.out.println(told);
                    Check.end("AgainstPlainModelTest");
                    return;
                }
            }
        }
        Check.end("AgainstPlainModelTest");
    }

    private static boolean same(String call, Check.Call mine, Check.Call plain) {
        calls++;
        Object want = Check.of(plain);
        Object got = Check.of(mine);
        told.append("\n").append(call).append(" = ").append(want);
        Check.due(call, want, got);
        return want.equals(got);
    }

    private static int upTo(int most) {
        return random.nextInt(most + 1);
    }

    private static int place() {
        return random.nextInt(60) == 0 ? (random.nextBoolean() ? -1 : 6) : upTo(random.nextInt(3) == 0 ? 5 : 2);
    }

    /** 0 to most, now and then one beyond. */
    private static int near(int most) {
        return random.nextInt(25) == 0 ? (random.nextBoolean() ? -1 : most + 1) : upTo(most);
    }

    private static String word(int shortest, int longest) {
        int length = shortest + random.nextInt(longest - shortest + 1);
        StringBuilder row = new StringBuilder();
        for (int k = 0; k < length; k++) {
            row.append(letters.charAt(random.nextInt(letters.length())));
        }
        return row.toString();
    }

    private static String shuffled() {
        StringBuilder left = new StringBuilder(letters);
        StringBuilder row = new StringBuilder();
        while (left.length() > 0) {
            int k = random.nextInt(left.length());
            row.append(left.charAt(k));
            left.deleteCharAt(k);
        }
        return row.toString();
    }

    private static String blank() {
        return random.nextInt(8) == 0 ? "\n " : "";
    }

    private static String systemText() {
        letters = "abcde".substring(0, 1 + random.nextInt(random.nextInt(3) == 0 ? 5 : 3));
        StringBuilder text = new StringBuilder("letters " + letters.length() + ";");
        int rules = random.nextInt(7);
        int fall = random.nextInt(3);
        for (int k = 0; k < rules; k++) {
            String left = word(1, 4);
            String right = word(0, fall == 0 ? 4 : left.length() - (fall == 1 ? 0 : 1));
            text.append(blank()).append("rule ").append(left).append(blank()).append(">").append(right);
            text.append(blank()).append(";");
            if (random.nextInt(6) == 0) {
                text.append("weigh ").append(word(1, 1)).append(1 + random.nextInt(9)).append(";");
            }
            if (random.nextInt(6) == 0) {
                text.append("order ").append(shuffled()).append(";");
            }
        }
        if (random.nextInt(4) == 0) {
            damage(text);
        }
        return text.length() > 300 ? text.substring(0, 300) : text.toString();
    }

    private static void damage(StringBuilder text) {
        String signs = "abcdef019;>, rules\n";
        int where = random.nextInt(text.length());
        switch (random.nextInt(4)) {
            case 0:
                text.setCharAt(where, signs.charAt(random.nextInt(signs.length())));
                break;
            case 1:
                text.deleteCharAt(where);
                break;
            case 2:
                text.insert(where, random.nextInt(5) == 0 ? (char) random.nextInt(256)
                        : signs.charAt(random.nextInt(signs.length())));
                break;
            default:
                text.setLength(where);
                break;
        }
    }

    private static boolean feed(String text) {
        for (int from = 0; from < text.length(); from += 20) {
            int[] n = new int[5];
            for (int k = 0; k < 20; k++) {
                n[k / 4] |= (from + k < text.length() ? text.charAt(from + k) : ' ') << (24 - 8 * (k % 4));
            }
            if (!same("feed", () -> x.feed(n[0], n[1], n[2], n[3], n[4]), () -> y.feed(n[0], n[1], n[2], n[3], n[4]))) {
                return false;
            }
        }
        return true;
    }

    private static boolean tellSystem() {
        String text = systemText();
        told.append("\n").append(text);
        boolean good = feed(text) && same("system " + text.length(), () -> x.system(text.length()),
                () -> y.system(text.length())) && same("fault", () -> x.fault(), () -> y.fault());
        letters = "abcde".substring(0, y.count(0));
        return good;
    }

    private static boolean tellWord() {
        int p = place();
        int n = random.nextInt(30) == 0 ? 17 : upTo(random.nextInt(4) == 0 ? 16 : 8);
        String row = random.nextInt(20) == 0 ? word(0, n) + (char) ('a' + letters.length()) : word(n, n);
        told.append("\n").append(row);
        int length = random.nextInt(30) == 0 ? -1 : row.length();
        return feed(row) && same("tell " + p + " " + length, () -> x.tell(p, length), () -> y.tell(p, length));
    }

    private static boolean oneTurn() {
        int kind = calls == 0 ? 0 : random.nextInt(100);
        int p = place();
        int q = place();
        int way = near(2);
        if (kind < 2) {
            return tellSystem();
        }
        if (kind < 12) {
            return tellWord();
        }
        if (kind < 24) {
            int k = near(Math.max(0, y.word(Math.floorMod(p, 6), 2) - 1));
            return same("make " + p + " " + k, () -> x.make(p, k), () -> y.make(p, k));
        }
        if (kind < 27) {
            return same("go " + p + " " + way, () -> x.go(p, way), () -> y.go(p, way));
        }
        if (kind < 30) {
            int k = near(y.word(Math.floorMod(q, 6), 4) - 1);
            return same("take " + p + " " + q + " " + k, () -> x.take(p, q, k), () -> y.take(p, q, k));
        }
        if (kind < 32) {
            int n = random.nextInt(12);
            return same("close " + n, () -> x.close(n), () -> y.close(n));
        }
        if (kind < 33) {
            return same("tidy", () -> x.tidy(), () -> y.tidy());
        }
        if (kind < 37) {
            return same("undo", () -> x.undo(), () -> y.undo());
        }
        if (kind < 39) {
            return imageOrBack();
        }
        return kind < 70 ? askOfPlaces(p, q, way) : askOfSystem(p, q);
    }

    private static boolean imageOrBack() {
        if (random.nextBoolean()) {
            calls++;
            x.image();
            y.image();
            told.append("\nimage");
            return true;
        }
        boolean good = same("back", () -> x.back(), () -> y.back());
        letters = "abcde".substring(0, y.count(0));
        return good;
    }

    private static boolean askOfPlaces(int p, int q, int way) {
        int what = near(9);
        switch (random.nextInt(9)) {
            case 0:
                return same("word " + p + " " + what, () -> x.word(p, what), () -> y.word(p, what));
            case 1:
                int a = near(16);
                return same("at " + p + " " + a, () -> x.at(p, a), () -> y.at(p, a));
            case 2:
                int k = near(Math.max(0, y.word(Math.floorMod(p, 6), 2) - 1));
                int w = near(1);
                return same("step " + p + " " + k + " " + w, () -> x.step(p, k, w), () -> y.step(p, k, w));
            case 3:
                int r = near(2);
                return same("run " + p + " " + way + " " + r, () -> x.run(p, way, r), () -> y.run(p, way, r));
            case 4:
                int c = near(y.word(Math.floorMod(p, 6), 4) - 1);
                return same("came " + p + " " + c, () -> x.came(p, c), () -> y.came(p, c));
            case 5:
                int m = near(1);
                return same("meet " + p + " " + q + " " + m, () -> x.meet(p, q, m), () -> y.meet(p, q, m));
            case 6:
                return same("far " + p + " " + q, () -> x.far(p, q), () -> y.far(p, q));
            case 7:
                return same("compare " + p + " " + q, () -> x.compare(p, q), () -> y.compare(p, q));
            default:
                return same("areOne " + p + " " + q, () -> x.areOne(p, q), () -> y.areOne(p, q));
        }
    }

    private static boolean askOfSystem(int p, int q) {
        int rule = near(Math.max(0, y.count(1) - 1));
        int other = near(Math.max(0, y.count(1) - 1));
        boolean right = random.nextBoolean();
        int k = near(random.nextInt(5) == 0 ? 16 : 4);
        int step = near(Math.max(0, y.word(Math.floorMod(p, 6), 8) - 1));
        int what = near(4);
        switch (random.nextInt(13)) {
            case 0:
                int count = near(6);
                return same("count " + count, () -> x.count(count), () -> y.count(count));
            case 1:
                return same("side " + rule + right + k, () -> x.side(rule, right, k), () -> y.side(rule, right, k));
            case 2:
                int l = near(letters.length() - 1);
                int of = near(2);
                return same("letter " + l + " " + of, () -> x.letter(l, of), () -> y.letter(l, of));
            case 3:
                int o = near(Math.max(0, y.count(4) - 1));
                return same("overlap " + o + " " + what, () -> x.overlap(o, what), () -> y.overlap(o, what));
            case 4:
                return same("falls " + rule, () -> x.falls(rule), () -> y.falls(rule));
            case 5:
                return same("constant", () -> x.constant(), () -> y.constant());
            case 6:
                return same("say", () -> x.say(), () -> y.say());
            case 7:
                int i = near(random.nextInt(3) == 0 ? 100 : 15);
                return same("said " + i, () -> x.said(i), () -> y.said(i));
            case 8:
                return same("head " + rule + right + k, () -> x.head(rule, right, k), () -> y.head(rule, right, k));
            case 9:
                int n = letters.length() > 3 ? near(8) % 6 : near(8);
                return same("free " + n, () -> x.free(n), () -> y.free(n));
            case 10:
                return same("areKin " + rule + " " + other, () -> x.areKin(rule, other), () -> y.areKin(rule, other));
            case 11:
                return same("made " + p + " " + step + " " + what, () -> x.made(p, step, what),
                        () -> y.made(p, step, what));
            default:
                int c = near(1);
                return same("canon " + p + " " + step + " " + c, () -> x.canon(p, step, c), () -> y.canon(p, step, c));
        }
    }
}

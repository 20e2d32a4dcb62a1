import java.util.ArrayDeque;
import java.util.ArrayList;
import java.util.Arrays;
import java.util.Deque;
import java.util.LinkedHashMap;
import java.util.LinkedHashSet;
import java.util.List;
import java.util.Map;
import java.util.NoSuchElementException;
import java.util.Set;

/**
 * The document once more, as slowly and plainly as can be: words are strings, nothing is kept that can
 * be worked out again. Only for tests, which ask it and RewrittenWords the same.
 */
final class PlainModel {
    private static final class Rule {
        final String left;
        final String right;

        Rule(String left, String right) {
            this.left = left;
            this.right = right;
        }
    }

    private static final class Step {
        final int where;
        final int rule;

        Step(int where, int rule) {
            this.where = where;
            this.rule = rule;
        }
    }

    private static final class State {
        int letters = 2;
        List<Rule> rules = new ArrayList<>();
        Map<Character, Integer> weights = new LinkedHashMap<>();
        String order = "ab";
        String[] told = {"", "", "", "", "", ""};
        List<List<Step>> steps = new ArrayList<>();

        State() {
            for (int place = 0; place < 6; place++) {
                steps.add(new ArrayList<>());
            }
        }

        State copy() {
            State other = new State();
            other.letters = letters;
            other.rules = new ArrayList<>(rules);
            other.weights = new LinkedHashMap<>(weights);
            other.order = order;
            other.told = told.clone();
            for (int place = 0; place < 6; place++) {
                other.steps.set(place, new ArrayList<>(steps.get(place)));
            }
            return other;
        }
    }

    private State now = new State();
    private State kept = null;
    private final Deque<State> acts = new ArrayDeque<>();
    private String tape = "";
    private int faultPlace = -1;
    private String said = "";

    // the tape, the text of a system

    int feed(int a, int b, int c, int d, int e) {
        if (tape.length() > 280) {
            return -1;
        }
        StringBuilder more = new StringBuilder(tape);
        for (int number : new int[] {a, b, c, d, e}) {
            more.append((char) (number >>> 24)).append((char) (number >> 16 & 255));
            more.append((char) (number >> 8 & 255)).append((char) (number & 255));
        }
        tape = more.toString();
        return tape.length();
    }

    private static final class Fault extends RuntimeException {
        private static final long serialVersionUID = 1;
        final int kind;
        final int place;

        Fault(int kind, int place) {
            this.kind = kind;
            this.place = place;
        }
    }

    private List<String> tokens;
    private List<Integer> starts;
    private int token;

    private void cutIntoTokens(String text) {
        tokens = new ArrayList<>();
        starts = new ArrayList<>();
        token = 0;
        java.util.regex.Matcher m = java.util.regex.Pattern
                .compile("[a-z]+|[0-9]+|[^ \n]", java.util.regex.Pattern.DOTALL).matcher(text);
        while (m.find()) {
            tokens.add(m.group());
            starts.add(m.start());
        }
        tokens.add("");
        starts.add(text.length());
    }

    private String want(String pattern) {
        String found = tokens.get(token);
        if (!found.matches(pattern)) {
            throw new Fault(1, starts.get(token));
        }
        token++;
        return found;
    }

    private void check(boolean good, int kind) {
        if (!good) {
            throw new Fault(kind, starts.get(token - 1));
        }
    }

    private int number(int most) {
        java.math.BigInteger found = new java.math.BigInteger(want("[0-9]+"));
        check(found.signum() > 0 && found.compareTo(java.math.BigInteger.valueOf(most)) <= 0, 2);
        return found.intValue();
    }

    private String side(State state, int most) {
        String found = want("[a-z]+");
        check(found.length() <= most && found.chars().allMatch(c -> c < 'a' + state.letters), 2);
        return found;
    }

    private State read(String text) {
        State state = new State();
        cutIntoTokens(text);
        want("letters");
        state.letters = number(5);
        state.order = "abcde".substring(0, state.letters);
        want(";");
        while (!tokens.get(token).isEmpty()) {
            String line = want("rule|weigh|order");
            if (line.equals("rule")) {
                check(state.rules.size() < 6, 3);
                String left = side(state, 4);
                want(">");
                String right = tokens.get(token).equals(";") ? "" : side(state, 4);
                check(!left.equals(right), 4);
                state.rules.add(new Rule(left, right));
            } else if (line.equals("weigh")) {
                String letter = side(state, 1);
                state.weights.put(letter.charAt(0), number(9));
            } else {
                String order = side(state, state.letters);
                check(order.chars().distinct().count() == state.letters, 2);
                state.order = order;
            }
            want(";");
        }
        return state;
    }

    int system(int n) {
        refuse(n < 0 || n > tape.length());
        String text = tape.substring(0, n);
        tape = "";
        try {
            now = read(text);
        } catch (Fault fault) {
            faultPlace = fault.place;
            return -10 - fault.kind;
        }
        faultPlace = -1;
        acts.clear();
        return now.rules.size();
    }

    int fault() {
        return faultPlace;
    }

    // words, weights, steps

    private static void refuse(boolean bad) {
        if (bad) {
            throw new IllegalArgumentException();
        }
    }

    private static void miss(boolean bad) {
        if (bad) {
            throw new NoSuchElementException();
        }
    }

    private static void place(int place) {
        miss(place < 0 || place > 5);
    }

    private void rule(int rule) {
        miss(rule < 0 || rule >= now.rules.size());
    }

    private int weight(char letter) {
        return now.weights.getOrDefault(letter, 1);
    }

    private int weight(String word) {
        return word.chars().map(c -> weight((char) c)).sum();
    }

    private int above(String one, String other) {
        if (one.equals(other)) {
            return 0;
        }
        if (weight(one) != weight(other)) {
            return weight(one) > weight(other) ? 1 : -1;
        }
        int k = 0;
        while (one.charAt(k) == other.charAt(k)) {
            k++;
        }
        return now.order.indexOf(one.charAt(k)) > now.order.indexOf(other.charAt(k)) ? 1 : -1;
    }

    private static String put(String word, int where, String taken, String given) {
        return word.substring(0, where) + given + word.substring(where + taken.length());
    }

    private static boolean can(String word, int where, String taken, String given) {
        return word.startsWith(taken, where) && word.length() - taken.length() + given.length() <= 16;
    }

    private List<Step> steps(String word) {
        List<Step> found = new ArrayList<>();
        for (int where = 0; where < word.length(); where++) {
            for (int r = 0; r < now.rules.size(); r++) {
                if (can(word, where, now.rules.get(r).left, now.rules.get(r).right)) {
                    found.add(new Step(where, r));
                }
            }
        }
        return found;
    }

    private String after(String word, Step step) {
        Rule rule = now.rules.get(step.rule);
        return put(word, step.where, rule.left, rule.right);
    }

    private List<String> afterBack(String word) {
        List<String> found = new ArrayList<>();
        for (int where = 0; where <= word.length(); where++) {
            for (Rule rule : now.rules) {
                if (can(word, where, rule.right, rule.left)) {
                    found.add(put(word, where, rule.right, rule.left));
                }
            }
        }
        return found;
    }

    private String wordOf(int place) {
        String word = now.told[place];
        for (Step step : now.steps.get(place)) {
            word = after(word, step);
        }
        return word;
    }

    private final class Run {
        final List<Step> made = new ArrayList<>();
        String end;
        int how;

        Run(String word, int way) {
            Set<String> seen = new LinkedHashSet<>();
            end = word;
            while (true) {
                List<Step> all = steps(end);
                if (all.isEmpty()) {
                    how = 0;
                    return;
                }
                if (!seen.add(end)) {
                    how = 1;
                    return;
                }
                if (made.size() == 60) {
                    how = 2;
                    return;
                }
                Step step = way == 0 ? all.get(0) : way == 1 ? all.get(all.size() - 1) : least(end, all);
                made.add(step);
                end = after(end, step);
            }
        }

        private Step least(String word, List<Step> all) {
            for (Step step : all) {
                String there = after(word, step);
                if (all.stream().noneMatch(other -> above(there, after(word, other)) > 0)) {
                    return step;
                }
            }
            throw new IllegalStateException();
        }
    }

    private Map<String, Integer> reach(String word, boolean both) {
        Map<String, Integer> found = new LinkedHashMap<>();
        found.put(word, 0);
        List<String> row = new ArrayList<>(List.of(word));
        for (int k = 0; k < row.size(); k++) {
            String here = row.get(k);
            List<String> next = new ArrayList<>();
            for (Step step : steps(here)) {
                next.add(after(here, step));
            }
            if (both) {
                next.addAll(afterBack(here));
            }
            for (String there : next) {
                if (row.size() < 200 && !found.containsKey(there)) {
                    found.put(there, found.get(here) + 1);
                    row.add(there);
                }
            }
        }
        return found;
    }

    private int end(String word) {
        int fewest = -1;
        for (Map.Entry<String, Integer> there : reach(word, false).entrySet()) {
            if (steps(there.getKey()).isEmpty() && (fewest < 0 || there.getValue() < fewest)) {
                fewest = there.getValue();
            }
        }
        return fewest;
    }

    private int loop(String word) {
        int fewest = -1;
        for (Map.Entry<String, Integer> there : reach(word, false).entrySet()) {
            for (Step step : steps(there.getKey())) {
                if (after(there.getKey(), step).equals(word) && (fewest < 0 || there.getValue() + 1 < fewest)) {
                    fewest = there.getValue() + 1;
                }
            }
        }
        return fewest;
    }

    // overlaps

    private final class Overlap {
        int i;
        int j;
        int s;
        String word;
        String one;
        String other;

        boolean closes() {
            return one.equals(other);
        }
    }

    private List<Overlap> overlaps() {
        List<Overlap> found = new ArrayList<>();
        for (int i = 0; i < now.rules.size(); i++) {
            for (int j = 0; j < now.rules.size(); j++) {
                for (int s = 0; s < now.rules.get(i).left.length(); s++) {
                    if (s > 0 || i < j) {
                        addOverlap(found, i, j, s);
                    }
                }
            }
        }
        return found;
    }

    private void addOverlap(List<Overlap> found, int i, int j, int s) {
        Rule first = now.rules.get(i);
        Rule second = now.rules.get(j);
        char[] both = new char[Math.max(first.left.length(), s + second.left.length())];
        for (int k = 0; k < both.length; k++) {
            char a = k < first.left.length() ? first.left.charAt(k) : 0;
            char b = k >= s && k < s + second.left.length() ? second.left.charAt(k - s) : 0;
            if (a != 0 && b != 0 && a != b) {
                return;
            }
            both[k] = a != 0 ? a : b;
        }
        Overlap overlap = new Overlap();
        overlap.i = i;
        overlap.j = j;
        overlap.s = s;
        overlap.word = new String(both);
        String one = put(overlap.word, 0, first.left, first.right);
        String other = put(overlap.word, s, second.left, second.right);
        if (both.length <= 16 && one.length() <= 16 && other.length() <= 16) {
            overlap.one = new Run(one, 0).end;
            overlap.other = new Run(other, 0).end;
            found.add(overlap);
        }
    }

    private boolean falls(Rule rule) {
        return above(rule.left, rule.right) > 0;
    }

    private boolean allFall() {
        return now.rules.stream().allMatch(this::falls);
    }

    // acts

    private void act() {
        acts.addLast(now.copy());
        if (acts.size() > 20) {
            acts.removeFirst();
        }
    }

    private void begin(int place, String word) {
        now.told[place] = word;
        now.steps.get(place).clear();
    }

    int tell(int place, int n) {
        refuse(place < 0 || place > 5 || n < 0 || n > tape.length());
        String word = tape.substring(0, n);
        tape = "";
        if (n > 16 || !word.chars().allMatch(c -> c >= 'a' && c < 'a' + now.letters)) {
            return -1;
        }
        act();
        begin(place, word);
        return n;
    }

    int make(int place, int k) {
        place(place);
        List<Step> all = steps(wordOf(place));
        if (k < 0 || k >= all.size() || now.steps.get(place).size() == 40) {
            return -1;
        }
        act();
        now.steps.get(place).add(all.get(k));
        return wordOf(place).length();
    }

    int go(int place, int way) {
        place(place);
        refuse(way < 0 || way > 2);
        Run run = new Run(wordOf(place), way);
        if (now.steps.get(place).size() + run.made.size() > 40) {
            return -1;
        }
        act();
        now.steps.get(place).addAll(run.made);
        return run.made.size();
    }

    int take(int place, int from, int k) {
        place(place);
        place(from);
        List<String> words = new ArrayList<>(reach(wordOf(from), false).keySet());
        miss(k < 0 || k >= words.size());
        act();
        begin(place, words.get(k));
        return words.get(k).length();
    }

    int close(int n) {
        refuse(n < 1 || n > 10);
        if (!allFall()) {
            return -1;
        }
        act();
        int came = 0;
        while (came < n && now.rules.size() < 12) {
            Overlap least = null;
            for (Overlap overlap : overlaps()) {
                if (!overlap.closes() && (least == null || above(least.word, overlap.word) > 0)) {
                    least = overlap;
                }
            }
            if (least == null) {
                break;
            }
            boolean ahead = above(least.one, least.other) > 0;
            now.rules.add(ahead ? new Rule(least.one, least.other) : new Rule(least.other, least.one));
            came++;
        }
        return came;
    }

    int tidy() {
        if (!allFall()) {
            return -1;
        }
        act();
        String[] words = new String[6];
        for (int place = 0; place < 6; place++) {
            words[place] = wordOf(place);
        }
        int went = 0;
        for (boolean again = true; again;) {
            again = false;
            for (int r = 0; r < now.rules.size() && !again; r++) {
                for (int o = 0; o < now.rules.size() && !again; o++) {
                    if (o != r && now.rules.get(r).left.contains(now.rules.get(o).left)) {
                        now.rules.remove(r);
                        went++;
                        again = true;
                    }
                }
            }
        }
        for (int r = 0; r < now.rules.size(); r++) {
            now.rules.set(r, new Rule(now.rules.get(r).left, new Run(now.rules.get(r).right, 0).end));
        }
        for (int place = 0; place < 6; place++) {
            begin(place, words[place]);
        }
        return went;
    }

    int undo() {
        if (acts.isEmpty()) {
            return -1;
        }
        now = acts.removeLast();
        return acts.size();
    }

    void image() {
        kept = now.copy();
    }

    boolean back() {
        if (kept == null) {
            return false;
        }
        now = kept.copy();
        acts.clear();
        return true;
    }

    // questions

    int count(int what) {
        miss(what < 0 || what > 6);
        switch (what) {
            case 0: return now.letters;
            case 1: return now.rules.size();
            case 2: return acts.size();
            case 3: return tape.length();
            case 4: return overlaps().size();
            case 5: return (int) overlaps().stream().filter(o -> !o.closes()).count();
            default: return (int) now.rules.stream().filter(this::falls).count();
        }
    }

    private static int letterAt(String word, int k) {
        miss(k < 0);
        return k < word.length() ? word.charAt(k) - 'a' : -1;
    }

    int side(int rule, boolean right, int k) {
        rule(rule);
        return letterAt(right ? now.rules.get(rule).right : now.rules.get(rule).left, k);
    }

    private int sum(String word, int[] weights) {
        return word.chars().map(c -> weights[c - 'a']).sum();
    }

    private int[] leastWeights(int[] weights, int letter) {
        if (letter == now.letters) {
            return now.rules.stream().allMatch(r -> sum(r.left, weights) > sum(r.right, weights)) ? weights : null;
        }
        for (int w = 1; w <= 5; w++) {
            weights[letter] = w;
            if (leastWeights(weights, letter + 1) != null) {
                return weights;
            }
        }
        return null;
    }

    int letter(int letter, int what) {
        miss(letter < 0 || letter >= now.letters || what < 0 || what > 2);
        if (what == 0) {
            return weight((char) ('a' + letter));
        }
        if (what == 1) {
            return now.order.indexOf('a' + letter);
        }
        int[] weights = leastWeights(new int[5], 0);
        return weights == null ? -1 : weights[letter];
    }

    int word(int place, int what) {
        place(place);
        miss(what < 0 || what > 9);
        String word = wordOf(place);
        switch (what) {
            case 0: return word.length();
            case 1: return weight(word);
            case 2: return steps(word).size();
            case 3: return steps(word).isEmpty() ? 1 : 0;
            case 4: return reach(word, false).size();
            case 5: return (int) reach(word, false).keySet().stream().filter(w -> steps(w).isEmpty()).count();
            case 6: return end(word);
            case 7: return loop(word);
            case 8: return now.steps.get(place).size();
            default: return Arrays.stream(new Drawing(place).rounds).max().orElse(0);
        }
    }

    int at(int place, int k) {
        place(place);
        return letterAt(wordOf(place), k);
    }

    int step(int place, int k, int what) {
        place(place);
        List<Step> all = steps(wordOf(place));
        miss(k < 0 || k >= all.size() || what < 0 || what > 1);
        return what == 0 ? all.get(k).where : all.get(k).rule;
    }

    int run(int place, int way, int what) {
        place(place);
        miss(what < 0 || what > 2);
        refuse(way < 0 || way > 2);
        Run run = new Run(wordOf(place), way);
        return what == 0 ? run.how : what == 1 ? run.made.size() : run.end.length();
    }

    int came(int place, int k) {
        place(place);
        List<Integer> came = new ArrayList<>(reach(wordOf(place), false).values());
        miss(k < 0 || k >= came.size());
        return came.get(k);
    }

    int meet(int one, int other, int what) {
        place(one);
        place(other);
        miss(what < 0 || what > 1);
        List<String> first = new ArrayList<>(reach(wordOf(one), false).keySet());
        List<String> second = new ArrayList<>(reach(wordOf(other), false).keySet());
        for (String word : first) {
            if (second.contains(word)) {
                return what == 0 ? first.indexOf(word) : second.indexOf(word);
            }
        }
        return -1;
    }

    int far(int one, int other) {
        place(one);
        place(other);
        return reach(wordOf(one), true).getOrDefault(wordOf(other), -1);
    }

    int compare(int one, int other) {
        place(one);
        place(other);
        return above(wordOf(one), wordOf(other));
    }

    int overlap(int k, int what) {
        List<Overlap> all = overlaps();
        miss(k < 0 || k >= all.size() || what < 0 || what > 4);
        Overlap overlap = all.get(k);
        switch (what) {
            case 0: return overlap.i;
            case 1: return overlap.j;
            case 2: return overlap.s;
            case 3: return overlap.word.length();
            default: return overlap.closes() ? 1 : 0;
        }
    }

    boolean falls(int rule) {
        rule(rule);
        return falls(now.rules.get(rule));
    }

    int constant() {
        int bits = 0;
        for (int letter = 0; letter < now.letters; letter++) {
            char sign = (char) ('a' + letter);
            if (now.rules.stream().allMatch(r -> r.left.chars().filter(c -> c == sign).count()
                    == r.right.chars().filter(c -> c == sign).count())) {
                bits |= 1 << letter;
            }
        }
        return bits;
    }

    int say() {
        List<String> parts = new ArrayList<>();
        for (Rule rule : now.rules) {
            parts.add(rule.left + ">" + rule.right);
        }
        said = String.join(",", parts) + "/";
        for (char letter : now.order.toCharArray()) {
            said += "" + letter + weight(letter);
        }
        return said.length();
    }

    int said(int i) {
        return i >= 0 && i < said.length() ? said.charAt(i) : -1;
    }

    private void kin(String names, Rule rule, Set<String> found) {
        if (names.length() < now.letters) {
            for (char letter = 'a'; letter < 'a' + now.letters; letter++) {
                if (names.indexOf(letter) < 0) {
                    kin(names + letter, rule, found);
                }
            }
            return;
        }
        String left = "";
        String right = "";
        for (char c : rule.left.toCharArray()) {
            left += names.charAt(c - 'a');
        }
        for (char c : rule.right.toCharArray()) {
            right += names.charAt(c - 'a');
        }
        found.add(left + ">" + right);
        found.add(new StringBuilder(left).reverse() + ">" + new StringBuilder(right).reverse());
    }

    int head(int rule, boolean right, int k) {
        rule(rule);
        Set<String> found = new LinkedHashSet<>();
        kin("", now.rules.get(rule), found);
        String head = found.stream().min((a, b) -> a.replace(">", "").compareTo(b.replace(">", ""))).get();
        return letterAt(right ? head.substring(head.indexOf('>') + 1) : head.substring(0, head.indexOf('>')), k);
    }

    boolean areKin(int rule, int other) {
        rule(rule);
        rule(other);
        Set<String> found = new LinkedHashSet<>();
        kin("", now.rules.get(rule), found);
        return found.contains(now.rules.get(other).left + ">" + now.rules.get(other).right);
    }

    private int freeFrom(String word, int n) {
        if (now.rules.stream().anyMatch(r -> word.endsWith(r.left))) {
            return 0;
        }
        if (word.length() == n) {
            return 1;
        }
        int sum = 0;
        for (char letter = 'a'; letter < 'a' + now.letters; letter++) {
            sum += freeFrom(word + letter, n);
        }
        return sum;
    }

    int free(int n) {
        refuse(n < 0 || n > 8);
        return freeFrom("", n);
    }

    // derivations

    private static final class Letter {
        final int maker;

        Letter(int maker) {
            this.maker = maker;
        }
    }

    private final class Drawing {
        final int[] rounds;
        final int[] standsOn;
        final List<Integer> canon = new ArrayList<>();
        final List<Integer> canonWhere = new ArrayList<>();

        Drawing(int place) {
            List<Step> made = now.steps.get(place);
            rounds = new int[made.size()];
            standsOn = new int[made.size()];
            List<Letter> told = new ArrayList<>();
            for (int k = 0; k < now.told[place].length(); k++) {
                told.add(new Letter(-1));
            }
            List<List<Letter>> took = new ArrayList<>();
            List<List<Letter>> gave = new ArrayList<>();
            List<Letter> row = new ArrayList<>(told);
            for (int k = 0; k < made.size(); k++) {
                Rule rule = now.rules.get(made.get(k).rule);
                List<Letter> part = row.subList(made.get(k).where, made.get(k).where + rule.left.length());
                took.add(new ArrayList<>(part));
                part.clear();
                List<Letter> given = new ArrayList<>();
                for (int m = 0; m < rule.right.length(); m++) {
                    given.add(new Letter(k));
                }
                gave.add(given);
                row.addAll(made.get(k).where, given);
                Set<Integer> on = new LinkedHashSet<>();
                took.get(k).stream().filter(l -> l.maker >= 0).forEach(l -> on.add(l.maker));
                standsOn[k] = on.size();
                rounds[k] = 1 + on.stream().mapToInt(o -> rounds[o]).max().orElse(0);
            }
            row = told;
            while (canon.size() < made.size()) {
                int best = -1;
                int bestAt = -1;
                for (int k = 0; k < made.size(); k++) {
                    int where = java.util.Collections.indexOfSubList(row, took.get(k));
                    if (!canon.contains(k) && where >= 0 && (best < 0 || where < bestAt)) {
                        best = k;
                        bestAt = where;
                    }
                }
                canon.add(best);
                canonWhere.add(bestAt);
                row.subList(bestAt, bestAt + took.get(best).size()).clear();
                row.addAll(bestAt, gave.get(best));
            }
        }

        List<Integer> rules(int place) {
            List<Integer> found = new ArrayList<>();
            canon.forEach(k -> found.add(now.steps.get(place).get(k).rule));
            return found;
        }
    }

    int made(int place, int k, int what) {
        place(place);
        miss(k < 0 || k >= now.steps.get(place).size() || what < 0 || what > 4);
        Step step = now.steps.get(place).get(k);
        switch (what) {
            case 0: return step.where;
            case 1: return step.rule;
            case 2: return new Drawing(place).rounds[k];
            case 3: return new Drawing(place).standsOn[k];
            default: return new Drawing(place).canon.indexOf(k);
        }
    }

    int canon(int place, int k, int what) {
        place(place);
        miss(k < 0 || k >= now.steps.get(place).size() || what < 0 || what > 1);
        Drawing drawing = new Drawing(place);
        return what == 0 ? drawing.canonWhere.get(k) : drawing.rules(place).get(k);
    }

    boolean areOne(int one, int other) {
        place(one);
        place(other);
        Drawing first = new Drawing(one);
        Drawing second = new Drawing(other);
        return now.told[one].equals(now.told[other]) && first.canonWhere.equals(second.canonWhere)
                && first.rules(one).equals(second.rules(other));
    }
}

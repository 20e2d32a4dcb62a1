/**
 * All that can be seen of an object, told as a text, a line for each thing. To see it all, ACTS are undone,
 * what was kept is brought back and the tape is emptied: the object is of no use then. Some 450 calls at
 * most, so that 60 are left for what comes ahead.
 */
final class Look {
    private final RewrittenWords x;
    private final StringBuilder row = new StringBuilder();

    private Look(RewrittenWords x) {
        this.x = x;
    }

    static String at(RewrittenWords x) {
        Look look = new Look(x);
        look.tapeAndFault();
        look.system();
        look.places();
        look.acts();
        look.kept();
        look.bytesOfTape();
        return look.row.toString();
    }

    /** All but the tape and the place of a FAULT. */
    static String withoutTape(RewrittenWords x) {
        Look look = new Look(x);
        look.system();
        look.places();
        look.acts();
        look.kept();
        return look.row.toString();
    }

    /** The first line of two looks that isn't the same; empty if all are. */
    static String difference(String one, String other) {
        String[] lines = one.split("\n", -1);
        String[] others = other.split("\n", -1);
        for (int k = 0; k < Math.min(lines.length, others.length); k++) {
            if (!lines[k].equals(others[k])) {
                return "'" + others[k] + "' instead of '" + lines[k] + "'";
            }
        }
        return lines.length == others.length ? "" : others.length + " lines instead of " + lines.length;
    }

    private void tapeAndFault() {
        row.append("tape ").append(x.count(3)).append(", fault ").append(x.fault()).append('\n');
    }

    private void system() {
        row.append("said ").append(Check.said(x)).append('\n');
        x.say();
        row.append("system ").append(Check.said(x)).append(", acts ").append(x.count(2)).append('\n');
    }

    private void places() {
        for (int place = 0; place < 6; place++) {
            row.append("place ").append(place).append(' ').append(Check.word(x, place));
            int steps = x.word(place, 8);
            // the last ones are enough: the word tells of the others
            for (int k = Math.max(0, steps - 3); k < steps; k++) {
                row.append(' ').append(k).append(':').append(x.made(place, k, 0)).append(x.made(place, k, 1));
            }
            // by what it was told
            row.append(x.areOne(place, (place + 1) % 6) ? " as the next one\n" : "\n");
        }
    }

    private void acts() {
        int left = x.undo();
        while (left >= 0) {
            row.append("undone, ").append(left).append(" left, rules ").append(x.count(1));
            for (int place = 0; place < 3; place++) {
                row.append(' ').append(x.word(place, 1)).append('.').append(x.word(place, 8));
            }
            row.append('\n');
            left = x.undo();
        }
    }

    private void kept() {
        row.append("back ").append(x.back()).append(", letters ").append(x.count(0)).append('\n');
        for (int place = 0; place < 2; place++) {
            row.append(Check.word(x, place)).append(' ').append(x.word(place, 8)).append('\n');
        }
    }

    private void bytesOfTape() {
        int bytes = x.count(3);
        row.append("told ").append(x.tell(0, Math.min(bytes, 16))).append(' ').append(Check.word(x, 0)).append('\n');
    }
}

import java.util.Random;

/** A random text for the tape: most are right, some are spoilt. */
final class SomeText {
    private static final String[] NAMES = {"rain", "hour", "place", "rate", "size", "gone"};
    private static final String[] SPOILT = {"(", ")", "not", "-", "<", "=", ";", "falls", "wakes", "12345", "x",
        "rains", "1", "or", "and", "+", "*", "?", "rain", "- - - - - -", "((((((1", "not not not not not not 1", "\n"};

    private final Random random;
    private final StringBuilder out = new StringBuilder();

    SomeText(Random random) {
        this.random = random;
    }

    String letters() {
        for (String key : new String[] {"falls ", "harms ", "wakes "}) {
            out.append(random.nextInt(6) == 0 ? "\n" : "").append(key);
            e(0);
            out.append(random.nextInt(3) == 0 ? " ;" : ";");
        }
        if (random.nextInt(5) == 0) {
            spoil();
        }
        return out.toString();
    }

    private void spoil() {
        int at = random.nextInt(out.length() + 1);
        switch (random.nextInt(4)) {
            case 0:
                out.setLength(at);
                break;
            case 1:
                if (at < out.length()) {
                    out.deleteCharAt(at);
                }
                break;
            default:
                String blank = random.nextBoolean() ? " " : "";
                out.insert(at, blank + SPOILT[random.nextInt(SPOILT.length)] + blank);
                break;
        }
    }

    private void blank() {
        out.append(random.nextInt(3) == 0 ? "\n" : " ");
    }

    private void e(int depth) {
        and(depth);
        if (random.nextInt(8) == 0) {
            out.append(" or ");
            and(depth);
        }
    }

    private void and(int depth) {
        not(depth);
        if (random.nextInt(8) == 0) {
            out.append(" and ");
            not(depth);
        }
    }

    private void not(int depth) {
        if (random.nextInt(10) == 0 && depth < 6) {
            out.append("not ");
            not(depth + 1);
            return;
        }
        sum(depth);
        if (random.nextInt(6) == 0) {
            out.append(random.nextBoolean() ? "<" : "=");
            sum(depth);
        }
    }

    private void sum(int depth) {
        term(depth);
        for (int i = random.nextInt(4) - 1; i > 0; i--) {
            out.append(random.nextBoolean() ? "+" : "-");
            term(depth);
        }
    }

    private void term(int depth) {
        one(depth);
        if (random.nextInt(3) == 0) {
            out.append("*");
            one(depth);
        }
    }

    private void one(int depth) {
        int which = random.nextInt(10);
        if (which == 0 && depth < 6) {
            out.append("-");
            one(depth + 1);
        } else if (which == 1 && depth < 6) {
            out.append("(");
            e(depth + 1);
            out.append(")");
        } else if (which < 5) {
            out.append(random.nextInt(8) == 0 ? random.nextInt(10000) : random.nextInt(8));
        } else {
            if (random.nextInt(8) == 0) {
                blank();
            }
            out.append(NAMES[random.nextInt(NAMES.length)]);
        }
    }
}

import java.util.ArrayList;
import java.util.List;
import java.util.Set;

/**
 * A text, read plainly: its tokens are laid side by side, a walk over them finds the fault, and a value is
 * found by splitting the tokens at the sign that binds least.
 */
final class PlainText {
    private static final Set<String> NAMES = Set.of("rain", "hour", "place", "rate", "size", "gone");
    private static final String[] KEYS = {"falls", "harms", "wakes"};

    private final List<String> tokens = new ArrayList<>();
    private final List<Integer> places = new ArrayList<>();
    private final List<Value> parts = new ArrayList<>();
    final int fault;

    PlainText(String bytes) {
        cut(bytes);
        int at = firstThatCannotStand();
        fault = at < 0 ? -1 : at < places.size() ? places.get(at) : bytes.length();
    }

    private void cut(String bytes) {
        int i = 0;
        while (i < bytes.length()) {
            char c = bytes.charAt(i);
            if (c == ' ' || c == '\n') {
                i++;
                continue;
            }
            int end = i + 1;
            if (c >= 'a' && c <= 'z') {
                while (end < bytes.length() && bytes.charAt(end) >= 'a' && bytes.charAt(end) <= 'z') {
                    end++;
                }
            } else if (c >= '0' && c <= '9') {
                while (end < bytes.length() && bytes.charAt(end) >= '0' && bytes.charAt(end) <= '9') {
                    end++;
                }
            }
            tokens.add(bytes.substring(i, end));
            places.add(i);
            i = end;
        }
    }

    private static boolean isNumber(String token) {
        return token.matches("[0-9]{1,4}");
    }

    /** What is open inside one pair of brackets, or inside none. */
    private static final class Frame {
        int nots = 0;
        int minuses = 0;
        boolean compared = false;
    }

    private static int open(List<Frame> frames) {
        int sum = frames.size() - 1;
        for (Frame frame : frames) {
            sum += frame.nots + frame.minuses;
        }
        return sum;
    }

    private int firstThatCannotStand() {
        int at = 0;
        for (String key : KEYS) {
            if (at >= tokens.size() || !tokens.get(at).equals(key)) {
                return at;
            }
            int end = endOfPart(at + 1);
            if (end < 0) {
                return -end - 1;
            }
            parts.add(value(tokens.subList(at + 1, end)));
            at = end + 1;
        }
        return at < tokens.size() ? at : -1;
    }

    /** Where the ; of a part stands; less than 0: the token -1 - it can't stand there. */
    private int endOfPart(int from) {
        List<Frame> frames = new ArrayList<>();
        frames.add(new Frame());
        boolean wantsOne = true;
        boolean fresh = true;
        for (int at = from; at < tokens.size(); at++) {
            String token = tokens.get(at);
            Frame frame = frames.get(frames.size() - 1);
            if (wantsOne) {
                if (isNumber(token) || NAMES.contains(token)) {
                    frame.minuses = 0;
                    wantsOne = false;
                } else if (token.equals("-") && open(frames) < 5) {
                    frame.minuses++;
                    fresh = false;
                } else if (token.equals("(") && open(frames) < 5) {
                    frames.add(new Frame());
                    fresh = true;
                } else if (token.equals("not") && fresh && open(frames) < 5) {
                    frame.nots++;
                } else {
                    return -at - 1;
                }
                continue;
            }
            if (token.equals("+") || token.equals("-") || token.equals("*")) {
                wantsOne = true;
                fresh = false;
            } else if ((token.equals("<") || token.equals("=")) && !frame.compared) {
                frame.compared = true;
                wantsOne = true;
                fresh = false;
            } else if (token.equals("and") || token.equals("or")) {
                frame.compared = false;
                frame.nots = 0;
                wantsOne = true;
                fresh = true;
            } else if (token.equals(")") && frames.size() > 1) {
                frames.remove(frames.size() - 1);
                frames.get(frames.size() - 1).minuses = 0;
            } else if (token.equals(";") && frames.size() == 1) {
                return at;
            } else {
                return -at - 1;
            }
        }
        return -tokens.size() - 1;
    }

    /** What a part tells; names: rain, hour, place, rate, size, gone. */
    int tells(int part, int most, int... names) {
        int v = parts.get(part).of(names);
        return v < 0 ? 0 : v > most ? most : v;
    }

    private interface Value {
        int of(int[] names);
    }

    private static Value left(List<String> e, int split) {
        return value(e.subList(0, split));
    }

    private static Value right(List<String> e, int split) {
        return value(e.subList(split + 1, e.size()));
    }

    private static Value value(List<String> e) {
        int split = lastOutside(e, "or", "or");
        if (split >= 0) {
            Value a = left(e, split);
            Value b = right(e, split);
            return names -> a.of(names) != 0 || b.of(names) != 0 ? 1 : 0;
        }
        split = lastOutside(e, "and", "and");
        if (split >= 0) {
            Value a = left(e, split);
            Value b = right(e, split);
            return names -> a.of(names) != 0 && b.of(names) != 0 ? 1 : 0;
        }
        if (e.get(0).equals("not")) {
            Value a = right(e, 0);
            return names -> a.of(names) == 0 ? 1 : 0;
        }
        split = lastOutside(e, "<", "=");
        if (split >= 0) {
            Value a = left(e, split);
            Value b = right(e, split);
            boolean less = e.get(split).equals("<");
            return names -> (less ? a.of(names) < b.of(names) : a.of(names) == b.of(names)) ? 1 : 0;
        }
        split = lastOutside(e, "+", "-");
        if (split >= 0) {
            Value a = left(e, split);
            Value b = right(e, split);
            boolean plus = e.get(split).equals("+");
            return names -> plus ? a.of(names) + b.of(names) : a.of(names) - b.of(names);
        }
        split = lastOutside(e, "*", "*");
        if (split >= 0) {
            Value a = left(e, split);
            Value b = right(e, split);
            return names -> a.of(names) * b.of(names);
        }
        return single(e);
    }

    private static Value single(List<String> e) {
        String first = e.get(0);
        if (first.equals("-")) {
            Value a = right(e, 0);
            return names -> -a.of(names);
        }
        if (first.equals("(")) {
            return value(e.subList(1, e.size() - 1));
        }
        if (isNumber(first)) {
            int number = Integer.parseInt(first);
            return names -> number;
        }
        int name = List.of("rain", "hour", "place", "rate", "size", "gone").indexOf(first);
        return names -> names[name];
    }

    /** The last of two signs that stands in no brackets and joins two; -1: none. */
    private static int lastOutside(List<String> e, String a, String b) {
        int depth = 0;
        for (int i = e.size() - 1; i > 0; i--) {
            String token = e.get(i);
            depth += token.equals(")") ? 1 : token.equals("(") ? -1 : 0;
            String ahead = e.get(i - 1);
            boolean joins = ahead.equals(")") || isNumber(ahead) || NAMES.contains(ahead);
            if (depth == 0 && joins && (token.equals(a) || token.equals(b))) {
                return i;
            }
        }
        return -1;
    }
}

import java.util.ArrayDeque;
import java.util.ArrayList;
import java.util.Deque;
import java.util.List;
import java.util.Map;
import java.util.TreeMap;

/** The document's LAW in the plainest form: a state machine over tokens, conditions as trees. */
final class ModelLaw {
    static final List<String> PARTS = List.of("tee", "long", "short", "last");
    static final List<String> WORDS = List.of("day", "hour", "week", "course", "behind", "order");

    /** A press RULE's condition. */
    interface Node {
        boolean holds(Map<String, Integer> asked);
    }

    record Hour(int part, int n, int from) {
    }

    record Press(int part, int n, Node node) {
    }

    record Token(String text, int place) {
        boolean isNumber() {
            return !text.isEmpty() && text.chars().allMatch(c -> c >= '0' && c <= '9');
        }
    }

    final int[] drift = new int[4];
    final int[] luck = new int[4];
    final Map<Integer, Integer> cut = new TreeMap<>();
    final Map<Integer, Integer> prize = new TreeMap<>();
    final Map<Integer, Integer> points = new TreeMap<>();
    final TreeMap<Integer, Integer> weigh = new TreeMap<>();
    final List<Hour> hours = new ArrayList<>();
    final List<Press> presses = new ArrayList<>();
    int rules = 0;
    int fault = -1;

    int weight(int age) {
        Map.Entry<Integer, Integer> told = weigh.floorEntry(age);
        return told == null ? 1 : told.getValue();
    }

    static List<Token> tokens(String text) {
        List<Token> found = new ArrayList<>();
        int at = 0;
        while (at < text.length()) {
            char c = text.charAt(at);
            if (c == 32 || c == 10) {
                at++;
                continue;
            }
            int end = at + 1;
            if (kind(c) < 2) {
                while (end < text.length() && kind(text.charAt(end)) == kind(c)) {
                    end++;
                }
            }
            found.add(new Token(text.substring(at, end), at));
            at = end;
        }
        return found;
    }

    private static int kind(char c) {
        if (c >= 'a' && c <= 'z') {
            return 0;
        }
        return c >= '0' && c <= '9' ? 1 : 2;
    }

    /** Thrown where no text goes on. */
    private static final class Stop extends RuntimeException {
        private static final long serialVersionUID = 1L;
    }

    private final Deque<Token> rest = new ArrayDeque<>();

    static ModelLaw read(String text) {
        ModelLaw law = new ModelLaw();
        law.rest.addAll(tokens(text));
        try {
            while (!law.rest.isEmpty()) {
                if (law.rules == 40) {
                    throw new Stop();
                }
                law.oneRule();
                law.sign(";");
                law.rules++;
            }
        } catch (Stop stop) {
            law.fault = law.rest.isEmpty() ? text.length() : law.rest.peek().place();
        }
        return law;
    }

    private String look() {
        if (rest.isEmpty()) {
            throw new Stop();
        }
        return rest.peek().text();
    }

    private void sign(String sign) {
        oneOf(List.of(sign));
    }

    private int oneOf(List<String> texts) {
        int found = texts.indexOf(look());
        if (found < 0) {
            throw new Stop();
        }
        rest.poll();
        return found;
    }

    private int number(int least, int most) {
        look();
        Token token = rest.peek();
        if (!token.isNumber() || token.text().length() > 4) {
            throw new Stop();
        }
        int n = Integer.parseInt(token.text());
        if (n < least || n > most) {
            throw new Stop();
        }
        rest.poll();
        return n;
    }

    private void oneRule() {
        List<String> kinds = List.of("drift", "luck", "hour", "press", "cut", "prize", "points", "weigh");
        String kind = kinds.get(oneOf(kinds));
        switch (kind) {
            case "drift", "luck" -> {
                int part = oneOf(PARTS);
                (kind.equals("luck") ? luck : drift)[part] = number(0, 9);
            }
            case "hour" -> {
                int part = oneOf(PARTS);
                int n = number(0, 20);
                sign("from");
                hours.add(new Hour(part, n, number(0, 11)));
            }
            case "press" -> {
                int part = oneOf(PARTS);
                int way = oneOf(List.of("more", "less")) == 0 ? 1 : -1;
                int n = number(0, 20) * way;
                Node node = asked -> true;
                if (!rest.isEmpty() && look().equals("if")) {
                    rest.poll();
                    node = condition();
                }
                presses.add(new Press(part, n, node));
            }
            case "cut" -> cut.put(number(0, 2), number(1, 20));
            case "prize" -> prize.put(number(1, 20), number(0, 9999));
            case "points" -> points.put(number(1, 20), number(0, 999));
            default -> weigh.put(number(0, 39), number(0, 20));
        }
    }

    /** One open bracket or the whole: what "or" and "and" have joined so far. */
    private static final class Frame {
        final List<List<Node>> all = new ArrayList<>(List.of(new ArrayList<>()));
        int nots = 0;

        void put(Node node) {
            Node whole = node;
            if (nots % 2 == 1) {
                whole = asked -> !node.holds(asked);
            }
            nots = 0;
            all.get(all.size() - 1).add(whole);
        }

        Node close() {
            List<List<Node>> kept = List.copyOf(all);
            return asked -> kept.stream().anyMatch(each -> each.stream().allMatch(one -> one.holds(asked)));
        }
    }

    private static int open(Deque<Frame> frames) {
        int open = frames.size() - 1;
        for (Frame frame : frames) {
            open += frame.nots;
        }
        return open;
    }

    private Node condition() {
        Deque<Frame> frames = new ArrayDeque<>();
        frames.push(new Frame());
        while (true) {
            String at = look();
            if (at.equals("not") || at.equals("(")) {
                if (open(frames) == 9) {
                    throw new Stop();
                }
                rest.poll();
                if (at.equals("not")) {
                    frames.peek().nots++;
                } else {
                    frames.push(new Frame());
                }
                continue;
            }
            String word = WORDS.get(oneOf(WORDS));
            int key = oneOf(List.of("<", ">", "="));
            int number = number(0, 9999);
            frames.peek().put(asked -> Integer.signum(Integer.compare(asked.get(word), number)) == List.of(-1, 1, 0).get(key));
            while (frames.size() > 1 && look().equals(")")) {
                rest.poll();
                Node inner = frames.pop().close();
                frames.peek().put(inner);
            }
            String then = rest.isEmpty() ? ";" : look();
            if (then.equals("or")) {
                frames.peek().all.add(new ArrayList<>());
            } else if (!then.equals("and")) {
                if (frames.size() > 1) {
                    throw new Stop();
                }
                return frames.peek().close();
            }
            rest.poll();
        }
    }
}

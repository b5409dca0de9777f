import java.util.ArrayList;
import java.util.List;
import java.util.TreeSet;
import java.util.regex.Matcher;
import java.util.regex.Pattern;

/** The texts of the Model: cut into tokens first; all codes that apply to a token are gathered. */
final class ModelText {
    private static final Pattern TOKEN = Pattern.compile("[a-z]+|[0-9]+|;|[^ \\n]");

    private static final class Failure extends RuntimeException {
        private static final long serialVersionUID = 1L;
        final int code;
        final int offset;

        Failure(int code, int offset) {
            this.code = code;
            this.offset = offset;
        }
    }

    private final List<String> tokens = new ArrayList<>();
    private final List<Integer> places = new ArrayList<>();
    private final int length;
    private int at = 0;
    private List<String> topics = new ArrayList<>();
    private List<Model.Cluster> clusters = new ArrayList<>();

    ModelText(String text) {
        Matcher matcher = TOKEN.matcher(text);
        while (matcher.find()) {
            tokens.add(matcher.group());
            places.add(matcher.start());
        }
        length = text.length();
    }

    private String peek() {
        return at < tokens.size() ? tokens.get(at) : "";
    }

    private int offset() {
        return at < tokens.size() ? places.get(at) : length;
    }

    private boolean isWord() {
        return peek().matches("[a-z]{1,8}");
    }

    private void take(TreeSet<Integer> codes) {
        if (!codes.isEmpty()) {
            throw new Failure(Model.smallest(codes), offset());
        }
        at++;
    }

    private int number(int low, int high) {
        TreeSet<Integer> codes = new TreeSet<>();
        int number = 0;
        if (!peek().matches("[0-9]{1,4}")) {
            codes.add(1);
        } else {
            number = Integer.parseInt(peek());
            if (number < low || number > high) {
                codes.add(2);
            }
        }
        take(codes);
        return number;
    }

    private String topic(boolean isNew) {
        TreeSet<Integer> codes = new TreeSet<>();
        String name = peek();
        if (!name.matches("[a-z]{1,6}")) {
            codes.add(1);
        }
        if (isNew && topics.contains(name)) {
            codes.add(3);
        }
        if (!isNew && !topics.contains(name)) {
            codes.add(4);
        }
        take(codes);
        return name;
    }

    private void semicolon() {
        TreeSet<Integer> codes = new TreeSet<>();
        if (!peek().equals(";")) {
            codes.add(1);
        }
        take(codes);
    }

    private int cordCount() {
        return clusters.stream().mapToInt(c -> c.all().size()).sum();
    }

    boolean setup(Model model) {
        try {
            while (at < tokens.size()) {
                setupStatement();
            }
            if (topics.isEmpty()) {
                throw new Failure(7, length);
            }
            model.topics = topics;
            model.clusters = clusters;
            report(model, 0, -1);
            return true;
        } catch (Failure failure) {
            report(model, failure.code, failure.offset);
            return false;
        }
    }

    private static void report(Model model, int code, int offset) {
        model.code = code;
        model.offset = offset;
    }

    private void setupStatement() {
        String word = peek();
        TreeSet<Integer> codes = new TreeSet<>();
        boolean isCord = word.equals("top") || word.equals("pendant") || word.equals("sub");
        Model.Cluster latest = clusters.isEmpty() ? null : clusters.get(clusters.size() - 1);
        if (!isWord() || !isCord && !word.equals("topic") && !word.equals("cluster")) {
            codes.add(1);
        }
        if (isCord && latest == null || word.equals("top") && latest != null && latest.top != null) {
            codes.add(5);
        }
        if (word.equals("topic") && topics.size() == 8 || word.equals("cluster") && clusters.size() == 6 || isCord && cordCount() == 40) {
            codes.add(6);
        }
        take(codes);
        if (word.equals("topic")) {
            topics.add(topic(true));
        } else if (word.equals("cluster")) {
            clusters.add(new Model.Cluster());
        } else {
            cord(word, latest);
        }
        semicolon();
    }

    private void cord(String word, Model.Cluster latest) {
        Model.Cord holder = word.equals("sub") ? holder(latest) : null;
        String topic = topic(false);
        int value = number(0, 9999);
        int lost = 0;
        if (peek().equals("nibbled")) {
            at++;
            lost = number(1, 4);
        }
        Model.Cord cord = new Model.Cord(topic, value, lost);
        if (word.equals("top")) {
            latest.top = cord;
        } else {
            (holder == null ? latest.pendants : holder.subs).add(cord);
        }
    }

    private Model.Cord holder(Model.Cluster latest) {
        TreeSet<Integer> codes = new TreeSet<>();
        if (!peek().matches("[0-9]{1,4}")) {
            codes.add(1);
            take(codes);
        }
        int depth = Integer.parseInt(peek());
        if (depth != 2 && depth != 3) {
            codes.add(2);
        }
        Model.Cord holder = null;
        for (Model.Cord pendant : latest.pendants) {
            if (depth == 2) {
                holder = pendant;
            }
            for (Model.Cord sub : pendant.subs) {
                holder = depth == 3 ? sub : holder;
            }
        }
        if (holder == null) {
            codes.add(5);
        }
        take(codes);
        return holder;
    }

    List<Object[]> script(Model model) {
        topics = model.topics;
        List<Object[]> statements = new ArrayList<>();
        try {
            while (at < tokens.size()) {
                statements.add(statement(statements.size()));
                semicolon();
            }
            report(model, 0, -1);
            return statements;
        } catch (Failure failure) {
            report(model, failure.code, failure.offset);
            return null;
        }
    }

    private Object[] statement(int before) {
        String word = peek();
        TreeSet<Integer> codes = new TreeSet<>();
        if (!List.of("cluster", "pendant", "sub", "cut", "tie", "knot", "nibble", "dye", "repair").contains(word)) {
            codes.add(1);
        }
        if (before == 30) {
            codes.add(6);
        }
        take(codes);
        switch (word) {
            case "pendant": return new Object[] {word, number(0, 5), topics.indexOf(topic(false)), number(0, 9999)};
            case "sub": return new Object[] {word, number(0, 39), topics.indexOf(topic(false)), number(0, 9999)};
            case "cut": return new Object[] {word, number(0, 39), 0, 0};
            case "tie": return new Object[] {word, number(0, 5), topics.indexOf(topic(false)), 0};
            case "knot": return new Object[] {word, number(0, 39), number(0, 3), number(0, 9)};
            case "nibble": return new Object[] {word, number(0, 39), number(1, 4), 0};
            case "dye": return new Object[] {word, number(0, 39), topics.indexOf(topic(false)), 0};
            case "repair": return new Object[] {word, number(0, 5), 0, 0};
            default: return new Object[] {word, 0, 0, 0};
        }
    }
}

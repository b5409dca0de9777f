import java.util.ArrayDeque;
import java.util.ArrayList;
import java.util.Deque;
import java.util.List;
import java.util.NoSuchElementException;
import java.util.TreeSet;

/** The document told a second time, with trees of cords and digits, to compare KnotReader with. */
final class Model {
    static final class Cord {
        String topic;
        final int[] digits = new int[4];
        int lost;
        final List<Cord> subs = new ArrayList<>();

        Cord(String topic, int value, int lost) {
            this.topic = topic;
            String text = String.format("%04d", value);
            for (int i = 0; i < 4; i++) {
                digits[i] = text.charAt(3 - i) - '0';
            }
            lose(lost);
        }

        Cord copy() {
            Cord copy = new Cord(topic, known(), lost);
            for (Cord sub : subs) {
                copy.subs.add(sub.copy());
            }
            return copy;
        }

        int lose(int places) {
            int knots = 0;
            for (int i = 0; i < places; i++) {
                knots += digits[i];
                digits[i] = 0;
            }
            lost = places;
            return knots;
        }

        int known() {
            return digits[0] + 10 * digits[1] + 100 * digits[2] + 1000 * digits[3];
        }

        List<Cord> branch() {
            List<Cord> all = new ArrayList<>();
            all.add(this);
            for (Cord sub : subs) {
                all.addAll(sub.branch());
            }
            return all;
        }

        boolean complete() {
            return branch().stream().allMatch(c -> c.lost == 0);
        }

        int lowest() {
            return branch().stream().mapToInt(Cord::known).sum();
        }

        int highest() {
            int sum = 0;
            for (Cord c : branch()) {
                int[] most = c.digits.clone();
                for (int i = 0; i < c.lost; i++) {
                    most[i] = 9;
                }
                sum += most[0] + 10 * most[1] + 100 * most[2] + 1000 * most[3];
            }
            return sum;
        }

        String written() {
            StringBuilder text = new StringBuilder(topic.substring(0, 1));
            for (int i = 3; i >= 0; i--) {
                text.append(i < lost ? "?" : "" + digits[i]);
            }
            if (!subs.isEmpty()) {
                List<String> parts = new ArrayList<>();
                for (Cord sub : subs) {
                    parts.add(sub.written());
                }
                text.append("(").append(String.join(",", parts)).append(")");
            }
            return text.toString();
        }
    }

    static final class Cluster {
        Cord top;
        final List<Cord> pendants = new ArrayList<>();

        List<Cord> all() {
            List<Cord> all = new ArrayList<>();
            if (top != null) {
                all.add(top);
            }
            for (Cord pendant : pendants) {
                all.addAll(pendant.branch());
            }
            return all;
        }

        List<Cord> lost() {
            List<Cord> lost = all();
            lost.removeIf(c -> c.lost == 0);
            return lost;
        }

        boolean sumIsKnown() {
            return pendants.stream().allMatch(Cord::complete);
        }

        int sum() {
            return pendants.stream().mapToInt(Cord::lowest).sum();
        }

        int state() {
            return top == null ? 0 : !lost().isEmpty() ? 1 : top.known() == sum() ? 2 : 3;
        }

        /** The only value with which the cluster would match, found by trying all; or null. */
        Integer guess() {
            Cord cord = lost().get(0);
            Integer found = null;
            for (int value = 0; value <= 9999; value++) {
                int rest = value;
                boolean fits = true;
                for (int i = 0; i < 4; i++) {
                    fits &= i < cord.lost || rest % 10 == cord.digits[i];
                    rest /= 10;
                }
                int sum = sum() - (cord == top ? 0 : cord.known()) + (cord == top ? 0 : value);
                if (fits && sum == (cord == top ? value : top.known())) {
                    found = value;
                }
            }
            return found;
        }

        int obstacle() {
            if (top == null) {
                return 1;
            }
            return lost().isEmpty() ? 2 : lost().size() > 1 ? 3 : guess() == null ? 4 : 0;
        }

        Cluster copy() {
            Cluster copy = new Cluster();
            copy.top = top == null ? null : top.copy();
            for (Cord pendant : pendants) {
                copy.pendants.add(pendant.copy());
            }
            return copy;
        }
    }

    List<String> topics = new ArrayList<>();
    List<Cluster> clusters = new ArrayList<>();
    final Deque<List<Cluster>> past = new ArrayDeque<>();
    List<Cluster> saved;
    String output = "";
    final StringBuilder input = new StringBuilder();
    int code = 0;
    int offset = -1;

    Model() {
        new ModelText("topic maize;topic wool;cluster;top maize 137;pendant maize 40;sub 2 wool 5;sub 3 wool 2;pendant wool 90;"
                + "cluster;top wool 60;pendant wool 23;pendant maize 30 nibbled 1;").setup(this);
    }

    static List<Cluster> copy(List<Cluster> clusters) {
        List<Cluster> copy = new ArrayList<>();
        for (Cluster cluster : clusters) {
            copy.add(cluster.copy());
        }
        return copy;
    }

    List<Cord> cords() {
        List<Cord> all = new ArrayList<>();
        for (Cluster cluster : clusters) {
            all.addAll(cluster.all());
        }
        return all;
    }

    Cord cord(int index) {
        require(index >= 0 && index < cords().size());
        return cords().get(index);
    }

    Cluster cluster(int index) {
        require(index >= 0 && index < clusters.size());
        return clusters.get(index);
    }

    String topic(int index) {
        require(index >= 0 && index < topics.size());
        return topics.get(index);
    }

    int indexOf(Cord cord) {
        List<Cord> all = cords();
        for (int i = 0; i < all.size(); i++) {
            if (all.get(i) == cord) {
                return i;
            }
        }
        return -1;
    }

    Cord parent(Cord cord) {
        for (Cord c : cords()) {
            if (c.subs.contains(cord)) {
                return c;
            }
        }
        return null;
    }

    int clusterOf(Cord cord) {
        for (int i = 0; i < clusters.size(); i++) {
            if (clusters.get(i).all().contains(cord)) {
                return i;
            }
        }
        return -1;
    }

    int depth(Cord cord) {
        if (clusters.get(clusterOf(cord)).top == cord) {
            return 0;
        }
        return parent(cord) == null ? 1 : 1 + depth(parent(cord));
    }

    private static void require(boolean exists) {
        if (!exists) {
            throw new IndexOutOfBoundsException();
        }
    }

    private static void argument(boolean good) {
        if (!good) {
            throw new IllegalArgumentException();
        }
    }

    private static void state(boolean good) {
        if (!good) {
            throw new IllegalStateException();
        }
    }

    private static void exists(boolean good) {
        if (!good) {
            throw new NoSuchElementException();
        }
    }

    /** Keeps the cords as they are now, before a change that will not throw. */
    private void keep() {
        past.push(copy(clusters));
        if (past.size() > 8) {
            past.removeLast();
        }
    }

    private interface Change {
        int make(Model model);
    }

    /** Makes a change on a copy first, so that one that throws leaves everything as it was. */
    private int change(Change change) {
        List<Cluster> before = copy(clusters);
        try {
            int answer = change.make(this);
            List<Cluster> after = clusters;
            clusters = before;
            keep();
            clusters = after;
            return answer;
        } catch (RuntimeException e) {
            clusters = before;
            throw e;
        }
    }

    int statement(String word, int a, int b, int c) {
        switch (word) {
            case "cluster":
                state(clusters.size() < 6);
                clusters.add(new Cluster());
                return clusters.size() - 1;
            case "pendant": {
                Cluster cluster = cluster(a);
                String topic = topic(b);
                argument(c >= 0 && c <= 9999);
                state(cords().size() < 40);
                Cord cord = new Cord(topic, c, 0);
                cluster.pendants.add(cord);
                return indexOf(cord);
            }
            case "sub": {
                Cord holder = cord(a);
                String topic = topic(b);
                argument(c >= 0 && c <= 9999);
                state(depth(holder) != 0 && depth(holder) != 3 && cords().size() < 40);
                Cord cord = new Cord(topic, c, 0);
                holder.subs.add(cord);
                return indexOf(cord);
            }
            case "cut": {
                Cord cord = cord(a);
                int before = cords().size();
                Cluster cluster = clusters.get(clusterOf(cord));
                Cord parent = parent(cord);
                if (cluster.top == cord) {
                    cluster.top = null;
                } else if (parent == null) {
                    cluster.pendants.remove(cord);
                } else {
                    parent.subs.remove(cord);
                }
                return before - cords().size();
            }
            case "tie": {
                Cluster cluster = cluster(a);
                String topic = topic(b);
                state(cluster.top == null && !cluster.pendants.isEmpty() && cluster.sumIsKnown() && cluster.sum() <= 9999 && cords().size() < 40);
                cluster.top = new Cord(topic, cluster.sum(), 0);
                return cluster.sum();
            }
            case "knot": {
                Cord cord = cord(a);
                argument(b >= 0 && b <= 3 && c >= 0 && c <= 9);
                state(b >= cord.lost);
                int before = cord.digits[b];
                cord.digits[b] = c;
                return before;
            }
            case "nibble": {
                Cord cord = cord(a);
                argument(b >= 1 && b <= 4);
                state(b >= cord.lost);
                return cord.lose(b);
            }
            case "dye": {
                Cord cord = cord(a);
                String topic = topic(b);
                int before = topics.indexOf(cord.topic);
                cord.topic = topic;
                return before;
            }
            case "repair": {
                Cluster cluster = cluster(a);
                state(cluster.obstacle() == 0);
                int guess = cluster.guess();
                Cord lost = cluster.lost().get(0);
                Cord mended = new Cord(lost.topic, guess, 0);
                System.arraycopy(mended.digits, 0, lost.digits, 0, 4);
                lost.lost = 0;
                return guess;
            }
            default:
                throw new AssertionError(word);
        }
    }

    private int append(int... words) {
        if (input.length() + 20 > 700) {
            return -1;
        }
        for (int word : words) {
            for (int i = 3; i >= 0; i--) {
                input.append((char) (word >>> 8 * i & 255));
            }
        }
        return input.length();
    }

    private Object truncate(int length) {
        if (length < 0 || length > input.length()) {
            return false;
        }
        input.setLength(length);
        return true;
    }

    private int load() {
        ModelText text = new ModelText(input.toString());
        input.setLength(0);
        if (!text.setup(this)) {
            return -1;
        }
        past.clear();
        saved = null;
        return cords().size();
    }

    private int script() {
        ModelText text = new ModelText(input.toString());
        input.setLength(0);
        List<Object[]> statements = text.script(this);
        if (statements == null) {
            return -1;
        }
        keep();
        int executed = 0;
        for (Object[] s : statements) {
            List<Cluster> before = copy(clusters);
            try {
                statement((String) s[0], (Integer) s[1], (Integer) s[2], (Integer) s[3]);
            } catch (RuntimeException e) {
                clusters = before;
                break;
            }
            executed++;
        }
        return executed;
    }

    /** The answer that is due for a call without arguments or with up to three. */
    Object call(String name, int... a) {
        switch (name) {
            case "appendInput": return append(a);
            case "truncateInput": return truncate(a[0]);
            case "loadCords": return load();
            case "runScript": return script();
            case "errorCode": return code;
            case "errorOffset": return offset;
            case "addCluster": return change(m -> m.statement("cluster", 0, 0, 0));
            case "addPendant": return change(m -> m.statement("pendant", a[0], a[1], a[2]));
            case "addSubsidiary": return change(m -> m.statement("sub", a[0], a[1], a[2]));
            case "cut": return change(m -> m.statement("cut", a[0], 0, 0));
            case "tieTop": return change(m -> m.statement("tie", a[0], a[1], 0));
            case "setKnots": return change(m -> m.statement("knot", a[0], a[1], a[2]));
            case "nibble": return change(m -> m.statement("nibble", a[0], a[1], 0));
            case "dye": return change(m -> m.statement("dye", a[0], a[1], 0));
            case "repair": return change(m -> m.statement("repair", a[0], 0, 0));
            case "undo":
                exists(!past.isEmpty());
                clusters = past.pop();
                return past.size();
            case "saveState":
                saved = copy(clusters);
                return cords().size();
            case "restoreState":
                exists(saved != null);
                clusters = copy(saved);
                past.clear();
                return cords().size();
            case "writeCluster": return write(cluster(a[0]));
            case "outputByte": return a[0] >= 0 && a[0] < output.length() ? (int) output.charAt(a[0]) : -1;
            default: return a.length == 0 ? whole(name) : part(name, a);
        }
    }

    private int write(Cluster cluster) {
        List<String> parts = new ArrayList<>();
        for (Cord pendant : cluster.pendants) {
            parts.add(pendant.written());
        }
        output = (cluster.top == null ? "" : cluster.top.written() + "=") + String.join("+", parts);
        return output.length();
    }

    private Object whole(String name) {
        List<Cord> all = cords();
        switch (name) {
            case "topicCount": return topics.size();
            case "clusterCount": return clusters.size();
            case "cordCount": return all.size();
            case "knotCount": return all.stream().mapToInt(c -> c.digits[0] + c.digits[1] + c.digits[2] + c.digits[3]).sum();
            case "nibbledCount": return (int) all.stream().filter(c -> c.lost > 0).count();
            case "matchingCount": return (int) clusters.stream().filter(c -> c.state() == 2).count();
            case "mostUsedTopic": {
                int best = 0;
                for (int i = 0; i < topics.size(); i++) {
                    best = used(i) > used(best) ? i : best;
                }
                return best;
            }
            case "greatestCord": {
                int most = all.stream().mapToInt(Cord::known).max().orElse(-1);
                for (int i = 0; i < all.size(); i++) {
                    if (all.get(i).known() == most) {
                        return i;
                    }
                }
                return -1;
            }
            case "averageValue":
                return all.isEmpty() ? 0.0 : (double) all.stream().mapToInt(Cord::known).sum() / (double) all.size();
            case "nibbledPart":
                return all.isEmpty() ? 0.0f : (float) all.stream().filter(c -> c.lost > 0).count() / (float) all.size();
            case "isConsistent": return true;
            default: throw new AssertionError(name);
        }
    }

    private int used(int topic) {
        return (int) cords().stream().filter(c -> c.topic.equals(topics.get(topic))).count();
    }

    private Object part(String name, int... a) {
        switch (name) {
            case "topicByte": {
                String topic = topic(a[0]);
                return a[1] >= 0 && a[1] < topic.length() ? (int) topic.charAt(a[1]) : -1;
            }
            case "cordsOfTopic":
                topic(a[0]);
                return used(a[0]);
            case "sumOfTopic": {
                String topic = topic(a[0]);
                return cords().stream().filter(c -> c.topic.equals(topic) && depth(c) > 0).mapToInt(Cord::known).sum();
            }
            case "pendantsIn": return cluster(a[0]).pendants.size();
            case "cordsIn": return cluster(a[0]).all().size();
            case "topOf": return indexOf(cluster(a[0]).top);
            case "firstPendant": return cluster(a[0]).pendants.isEmpty() ? -1 : indexOf(cluster(a[0]).pendants.get(0));
            case "stateOf": return cluster(a[0]).state();
            case "guessObstacle": return cluster(a[0]).obstacle();
            case "sumOf":
                exists(cluster(a[0]).sumIsKnown());
                return cluster(a[0]).sum();
            case "guessIn":
                exists(cluster(a[0]).obstacle() == 0);
                return cluster(a[0]).guess();
            case "nibbledCord": return cluster(a[0]).lost().size() == 1 ? indexOf(cluster(a[0]).lost().get(0)) : -1;
            default: return ofCord(name, cord(a[0]), a);
        }
    }

    private Object ofCord(String name, Cord cord, int... a) {
        switch (name) {
            case "clusterOf": return clusterOf(cord);
            case "depthOf": return depth(cord);
            case "parentOf": return indexOf(parent(cord));
            case "topicOf": return topics.indexOf(cord.topic);
            case "subsidiariesOf": return cord.subs.size();
            case "nibbledPlaces": return cord.lost;
            case "knownValue": return cord.known();
            case "lowestTotal": return cord.lowest();
            case "highestTotal": return cord.highest();
            case "knotsAt":
                argument(a[1] >= 0 && a[1] <= 3);
                return a[1] < cord.lost ? -1 : cord.digits[a[1]];
            case "isComplete": return cord.complete();
            case "totalOf":
                exists(cord.complete());
                return cord.lowest();
            default: throw new AssertionError(name);
        }
    }

    /** The smallest of the codes that apply to a token, or 0. */
    static int smallest(TreeSet<Integer> codes) {
        return codes.isEmpty() ? 0 : codes.first();
    }
}

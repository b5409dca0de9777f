import java.lang.reflect.InvocationTargetException;
import java.lang.reflect.Method;
import java.util.ArrayList;
import java.util.Arrays;
import java.util.HashMap;
import java.util.List;
import java.util.Map;

/** Long runs of calls, the same on a KnotReader and on the Model, always the same runs. */
public final class ModelTest {
    private static final int RUNS = 600;
    private static final int CALLS = 512;
    private static final String[] CHANGES = {"addCluster", "addPendant", "addPendant", "addSubsidiary", "addSubsidiary", "cut", "tieTop", "setKnots",
        "nibble", "dye", "repair", "repair", "undo", "undo", "saveState", "restoreState"};
    private static final String[] WHOLE = {"errorCode", "errorOffset", "topicCount", "clusterCount", "cordCount", "knotCount", "nibbledCount",
        "matchingCount", "mostUsedTopic", "greatestCord", "averageValue", "nibbledPart", "isConsistent"};
    private static final String[] OF_CORDS = {"clusterOf", "depthOf", "parentOf", "topicOf", "subsidiariesOf", "nibbledPlaces", "knownValue",
        "lowestTotal", "highestTotal", "isComplete", "totalOf"};
    private static final String[] OF_CLUSTERS = {"pendantsIn", "cordsIn", "topOf", "firstPendant", "stateOf", "guessObstacle", "sumOf", "guessIn",
        "nibbledCord"};
    private static final String[] OF_TOPICS = {"cordsOfTopic", "sumOfTopic"};

    private static final Map<String, Method> METHODS = new HashMap<>();
    private static final Map<String, Integer> SEEN = new HashMap<>();
    private static long seed = 1;
    private static int calls = 0;

    private KnotReader reader = new KnotReader();
    private Model model = new Model();
    private final List<String> history = new ArrayList<>();

    public static void main(String[] args) throws Exception {
        for (Method method : KnotReader.class.getMethods()) {
            METHODS.put(method.getName(), method);
        }
        for (int run = 0; run < RUNS; run++) {
            new ModelTest().run(run);
        }
        if (args.length > 0) {
            System.out.println(SEEN);
        }
        System.out.println("ModelTest: " + calls + " calls as due in " + RUNS + " runs");
    }

    private static int random(int bound) {
        seed = seed * 6364136223846793005L + 1442695040888963407L;
        return (int) ((seed >>> 33) % bound);
    }

    private static String pick(String[] names) {
        return names[random(names.length)];
    }

    private void run(int run) throws Exception {
        int mood = run % 3;
        while (history.size() < CALLS) {
            int choice = random(100);
            if (choice < (mood == 0 ? 12 : 3)) {
                text();
            } else if (choice < (mood == 1 ? 80 : 50)) {
                change(pick(CHANGES));
            } else if (choice < 99) {
                query();
            } else {
                compareAll();
            }
        }
    }

    /** Makes a call on both sides and ends the test if the answers differ. */
    private Object both(String name, int... arguments) throws Exception {
        Method method = METHODS.get(name);
        Object[] boxed = Arrays.stream(arguments).boxed().toArray();
        Object got;
        Object due;
        try {
            got = method.invoke(reader, boxed);
        } catch (InvocationTargetException e) {
            got = e.getCause().getClass();
        }
        try {
            due = model.call(name, arguments);
        } catch (IndexOutOfBoundsException | IllegalArgumentException | IllegalStateException | java.util.NoSuchElementException e) {
            due = e.getClass();
        }
        calls++;
        history.add(name + Arrays.toString(arguments) + " = " + got);
        SEEN.merge(name + (due instanceof Class ? " " + ((Class<?>) due).getSimpleName() : ""), 1, Integer::sum);
        if (!due.equals(got)) {
            history.forEach(System.out::println);
            System.out.println("due is " + due);
            System.exit(1);
        }
        return got;
    }

    private int index(int size) {
        int choice = random(40);
        if (choice == 0) {
            return new int[] {-1, size, size + 1, Integer.MIN_VALUE, Integer.MAX_VALUE, 40, 65536}[random(7)];
        }
        return size > 0 ? random(size) : 0;
    }

    private int cord() {
        return index(model.cords().size());
    }

    private int cluster() {
        return index(model.clusters.size());
    }

    private int topic() {
        return index(model.topics.size());
    }

    private int value() {
        switch (random(8)) {
            case 0: return new int[] {-1, 10000, 9999, 0, Integer.MAX_VALUE, Integer.MIN_VALUE}[random(6)];
            case 1: return random(10000);
            case 2: return random(1000);
            default: return random(100);
        }
    }

    private void change(String name) throws Exception {
        switch (name) {
            case "addPendant": both(name, cluster(), topic(), value()); break;
            case "addSubsidiary": both(name, cord(), topic(), value()); break;
            case "cut":
                if (random(2) == 0) {
                    both(name, cord());
                }
                break;
            case "tieTop": both(name, cluster(), topic()); break;
            case "setKnots": both(name, cord(), index(4), index(10)); break;
            case "nibble":
                if (random(3) == 0) {
                    both(name, cord(), 1 + index(4));
                }
                break;
            case "dye": both(name, cord(), topic()); break;
            case "repair": both(name, cluster()); break;
            default: both(name);
        }
    }

    private void query() throws Exception {
        switch (random(7)) {
            case 0: both(pick(WHOLE)); break;
            case 1: both(pick(OF_CORDS), cord()); break;
            case 2: both(pick(OF_CLUSTERS), cluster()); break;
            case 3: both(pick(OF_TOPICS), topic()); break;
            case 4: both("knotsAt", cord(), index(4)); break;
            case 5: both("topicByte", topic(), index(7)); break;
            default: both("writeCluster", cluster());
                both("outputByte", index(60));
        }
    }

    /** Compares every query of every index, beyond the calls that an object is promised. */
    private void compareAll() throws Exception {
        for (String name : WHOLE) {
            both(name);
        }
        for (int i = -1; i <= model.cords().size(); i++) {
            for (String name : OF_CORDS) {
                both(name, i);
            }
        }
        for (int i = -1; i <= model.clusters.size(); i++) {
            for (String name : OF_CLUSTERS) {
                both(name, i);
            }
            both("writeCluster", i);
            for (int at = -1; at <= model.output.length(); at++) {
                both("outputByte", at);
            }
        }
        for (int i = -1; i <= model.topics.size(); i++) {
            for (String name : OF_TOPICS) {
                both(name, i);
            }
        }
    }

    private void text() throws Exception {
        boolean isSetup = random(3) == 0;
        String text = spoiled(isSetup ? setup() : script());
        append(text);
        int choice = random(40);
        if (choice == 0) {
            both("truncateInput", index(model.input.length()));
        } else if (choice > 2) {
            String name = isSetup ? "loadCords" : "runScript";
            both(name);
            both("errorCode");
            both("errorOffset");
            SEEN.merge(name + " code " + model.code, 1, Integer::sum);
        }
    }

    private void append(String text) throws Exception {
        int before = model.input.length();
        for (int at = 0; at < text.length(); at += 20) {
            int[] words = new int[5];
            for (int i = 0; i < 20; i++) {
                words[i / 4] = words[i / 4] << 8 | (at + i < text.length() ? text.charAt(at + i) & 255 : 32);
            }
            both("appendInput", words);
        }
        both("truncateInput", before + text.length());
    }

    /** A name of a topic, mostly one that there is. */
    private static String name(List<String> names) {
        if (names.isEmpty() || random(60) == 0) {
            return pick(new String[] {"a", "maize", "wool", "nowhere", "abcdefgh", "abcdefghi", "zz", "top", "cluster"});
        }
        return names.get(random(names.size()));
    }

    private static String number(int bound) {
        int choice = random(80);
        if (choice == 0) {
            return pick(new String[] {"10000", "00000", "0001", "9999", "40", "6", "5", "10", "0", "99", "x"});
        }
        return "" + random(bound);
    }

    private static String gap() {
        return pick(new String[] {" ", " ", " ", "\n", "  ", " \n "});
    }

    private static String setup() {
        StringBuilder text = new StringBuilder();
        List<String> names = new ArrayList<>();
        int many = random(3) == 0 ? 60 : 1 + random(20);
        boolean isShort = many == 60;
        if (random(30) != 0) {
            names.add(isShort ? "a" : pick(new String[] {"a", "b", "maize", "cotton"}));
            text.append("topic ").append(names.get(0)).append(";");
        }
        int deepest = random(20) != 0 ? 0 : 1;
        text.append(deepest == 0 ? "cluster;" : "");
        int kinds = random(4) == 0 ? 12 : isShort ? 80 : 40;
        for (int i = 0; i < many && text.length() < 660; i++) {
            int kind = random(kinds);
            if (kind < 2) {
                String name = random(30) == 0 ? name(names) : "" + (char) ('a' + random(26)) + pick(new String[] {"", "x", "yyyyy"});
                names.add(name);
                text.append("topic").append(gap()).append(name);
            } else if (kind < 4) {
                text.append("cluster");
                deepest = 0;
            } else if (kind < 6 && (random(6) == 0 || text.lastIndexOf("top ") < text.lastIndexOf("cluster"))) {
                text.append("top ").append(name(names)).append(gap()).append(number(200)).append(lost());
            } else if (deepest == 0 && random(30) != 0 || kind < (isShort ? 30 : 20)) {
                text.append("pendant ").append(name(names)).append(number(100)).append(lost());
                deepest = Math.max(deepest, 1);
            } else {
                int depth = random(60) == 0 ? random(6) : random(60) == 0 ? 3 : 2 + random(Math.max(deepest, 1) > 1 ? 2 : 1);
                text.append("sub").append(depth).append(gap()).append(name(names)).append(gap()).append(number(isShort ? 10 : 100)).append(lost());
                deepest = Math.max(deepest, Math.min(depth, 2));
            }
            text.append(";");
        }
        return text.toString();
    }

    private static String lost() {
        return random(12) == 0 ? " nibbled " + (random(20) == 0 ? number(7) : "" + (1 + random(4))) : "";
    }

    private String script() {
        StringBuilder text = new StringBuilder();
        int many = random(10) == 0 ? 29 + random(4) : random(12);
        int cords = model.cords().size() + 1;
        int clusters = model.clusters.size() + 1;
        for (int i = 0; i < many; i++) {
            switch (random(many > 20 ? 4 : 10)) {
                case 0: text.append("cut ").append(number(cords)); break;
                case 1: text.append("repair ").append(number(clusters)); break;
                case 2: text.append("knot").append(number(cords)).append(gap()).append(number(4)).append(gap()).append(number(10)); break;
                case 3: text.append("dye ").append(number(cords)).append(gap()).append(name(model.topics)); break;
                case 4: text.append("tie ").append(number(clusters)).append(name(model.topics)); break;
                case 5: text.append("nibble ").append(number(cords)).append(gap()).append(random(20) == 0 ? number(6) : "" + (1 + random(4))); break;
                case 6: text.append("cluster"); break;
                case 7: text.append("pendant ").append(number(clusters)).append(gap()).append(name(model.topics)).append(gap()).append(number(100)); break;
                default: text.append("sub ").append(number(cords)).append(gap()).append(name(model.topics)).append(gap()).append(number(100)); break;
            }
            text.append(";");
        }
        return text.toString();
    }

    /** Now and then a text with a byte changed, put in, left out or cut off behind. */
    private static String spoiled(String text) {
        if (text.isEmpty() || random(4) != 0) {
            return text;
        }
        int at = random(text.length());
        String sign = "" + (random(3) == 0 ? (char) random(256) : "; \n0919azxA!".charAt(random(12)));
        switch (random(5)) {
            case 0: return text.substring(0, at) + sign + text.substring(at);
            case 1: return text.substring(0, at) + sign + text.substring(at + 1);
            case 2: return text.substring(0, at) + text.substring(at + 1);
            case 3: return text.substring(0, at);
            default: return text.substring(0, at) + text.substring(at, at + 1) + text.substring(at);
        }
    }
}

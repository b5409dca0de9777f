import java.util.concurrent.Callable;

/** What the tests share: comparing answers, expecting exceptions, feeding texts. */
final class Checks {
    private int wrong = 0;
    private int checked = 0;

    void due(String what, Object got, Object want) {
        checked++;
        if (!want.equals(got)) {
            wrong++;
            System.out.println(what + " answered " + got + ", due is " + want);
        }
    }

    /** The answer of a call, or the exact class of what it throws. */
    static Object answer(Callable<?> call) {
        try {
            return call.call();
        } catch (Exception e) {
            return e.getClass();
        }
    }

    void thrown(String what, Callable<?> call, Class<?> want) {
        due(what, answer(call), want);
    }

    void close(String name) {
        System.out.println(name + ": " + (checked - wrong) + " passed, " + wrong + " failed");
        if (wrong != 0) {
            System.exit(1);
        }
    }

    /** Appends a text of characters 0 to 255, and fails if it does not fit. */
    static void feed(KnotReader reader, String text) {
        int before = reader.appendInput(0, 0, 0, 0, 0) - 20;
        reader.truncateInput(before);
        for (int at = 0; at < text.length(); at += 20) {
            int length = reader.appendInput(four(text, at), four(text, at + 4), four(text, at + 8), four(text, at + 12), four(text, at + 16));
            if (length < 0) {
                throw new IllegalStateException("the text is too long for this test");
            }
        }
        reader.truncateInput(before + text.length());
    }

    private static int four(String text, int at) {
        int word = 0;
        for (int i = at; i < at + 4; i++) {
            word = word << 8 | (i < text.length() ? text.charAt(i) & 255 : 32);
        }
        return word;
    }

    static int load(KnotReader reader, String text) {
        feed(reader, text);
        return reader.loadCords();
    }

    static int run(KnotReader reader, String text) {
        feed(reader, text);
        return reader.runScript();
    }

    static KnotReader with(String setup) {
        KnotReader reader = new KnotReader();
        if (load(reader, setup) < 0) {
            throw new IllegalStateException("error " + reader.errorCode() + " at " + reader.errorOffset() + " in " + setup);
        }
        return reader;
    }

    static String written(KnotReader reader, int cluster) {
        int length = reader.writeCluster(cluster);
        StringBuilder text = new StringBuilder();
        for (int i = 0; i < length; i++) {
            text.append((char) reader.outputByte(i));
        }
        return text.toString();
    }

    /** All clusters as writeCluster writes them, with a bar behind each. */
    static String all(KnotReader reader) {
        StringBuilder text = new StringBuilder();
        for (int i = 0; i < reader.clusterCount(); i++) {
            text.append(written(reader, i)).append('|');
        }
        return text.toString();
    }

    static String repeat(String text, int times) {
        return text.repeat(times);
    }
}

import java.util.NoSuchElementException;

/** The sentences of the promises 1 to 42: texts and queries, each with its boundary cases. */
public final class QueriesTest {
    private static final Sentences S = new Sentences("Promise 1:", "Promise 43:");
    private static final Class<?> INDEX = IndexOutOfBoundsException.class;
    private static final Class<?> ARGUMENT = IllegalArgumentException.class;
    private static final Class<?> MISSING = NoSuchElementException.class;
    private static final String FIRST = "m0137=m0040(w0005(w0002))+w0090|w0060=w0023+m003?|";
    private static final String C = "topic a;cluster;";
    private static final String NO_CORD = "Throws IndexOutOfBoundsException if there is no such cord";
    private static final String NO_CLUSTER = "Throws IndexOutOfBoundsException if there is no such cluster";
    private static final String NO_TOPIC = "Throws IndexOutOfBoundsException if there is no such topic";
    private static final String A_CORD = "cord: index of a cord";
    private static final String A_CLUSTER = "cluster: index of a cluster";
    private static final String A_TOPIC = "topic: index of a topic";

    private interface Query {
        Object of(KnotReader k, int index);
    }

    public static void main(String[] args) {
        newObject();
        appendInput();
        truncateInput();
        loadCords();
        runScript();
        errors();
        counts();
        topicByte();
        places();
        cordQueries();
        lowestAndHighest();
        knotsAt();
        completeness();
        clusterQueries();
        states();
        sumsAndGuesses();
        topicQueries();
        bests();
        parts();
        consistency();
        S.close("QueriesTest");
    }

    private static KnotReader with(String setup) {
        return Checks.with(setup);
    }

    /** Asks for indices beyond both ends of what there is, and for the first and the last. */
    private static void ends(int size, Query query) {
        for (int wrong : new int[] {-1, size, size + 1, 255, 256, 65536, Integer.MAX_VALUE, Integer.MIN_VALUE, size - 65536, size - 256}) {
            S.due(INDEX, () -> query.of(new KnotReader(), wrong));
        }
        S.due(false, () -> Checks.answer(() -> query.of(new KnotReader(), 0)) == INDEX);
        S.due(false, () -> Checks.answer(() -> query.of(new KnotReader(), size - 1)) == INDEX);
        S.due(INDEX, () -> query.of(with("topic a;"), size == 2 ? 1 : 0));
    }

    /** The ends of the cords: those of a new object, of one without a cord, of a full one. */
    private static void cordEnds(Query query) {
        ends(8, query);
        KnotReader full = with(C + "pendant a 1;".repeat(40));
        S.due(INDEX, () -> query.of(full, 40));
        S.due(false, () -> Checks.answer(() -> query.of(full, 39)) == INDEX);
        full.cut(39);
        S.due(INDEX, () -> query.of(full, 39));
    }

    private static void clusterEnds(Query query) {
        ends(2, query);
        S.due(INDEX, () -> query.of(with("topic a;"), 0));
        KnotReader full = with("topic a;" + "cluster;top a 1;pendant a 1;".repeat(6));
        S.due(INDEX, () -> query.of(full, 6));
        full.nibble(10, 1);
        S.due(false, () -> Checks.answer(() -> query.of(full, 5)) == INDEX);
        KnotReader undone = new KnotReader();
        undone.addCluster();
        undone.undo();
        S.due(INDEX, () -> query.of(undone, 2));
    }

    private static void topicEnds(Query query) {
        ends(2, query);
        KnotReader full = with("topic a;topic b;topic c;topic d;topic e;topic f;topic g;topic h;");
        S.due(false, () -> Checks.answer(() -> query.of(full, 7)) == INDEX);
        S.due(INDEX, () -> query.of(full, 8));
    }

    private static void newObject() {
        S.section("Promise 1: A new object");
        S.says("Creates the cords of the setup text \"topic maize;topic wool;cluster;top maize 137;pendant maize 40;sub 2 wool 5;sub 3 wool 2;pendant wool 90;cluster;top wool 60;pendant wool 23;pendant maize 30 nibbled 1;\" with an empty input buffer and an empty output.");
        S.due("maize wool ", () -> Witness.topics(new KnotReader()));
        S.due(FIRST, () -> Checks.all(new KnotReader()));
        S.due(Witness.cords(with("topic maize;topic wool;cluster;top maize 137;pendant maize 40;sub 2 wool 5;sub 3 wool 2;pendant wool 90;cluster;top wool 60;pendant wool 23;pendant maize 30 nibbled 1;")),
            () -> Witness.cords(new KnotReader()));
        S.due(0, () -> Witness.inputLength(new KnotReader()));
        S.due(-1, () -> new KnotReader().outputByte(0));
        S.due(0, () -> new KnotReader().runScript());
        S.due("error 0 at -1", () -> Witness.error(new KnotReader()));
        S.due(MISSING, () -> new KnotReader().undo());
        S.due(MISSING, () -> new KnotReader().restoreState());
    }

    private static void appendInput() {
        S.section("Promise 2: appendInput");
        S.says("Appends 20 bytes to the input buffer.");
        KnotReader k = new KnotReader();
        S.due(20, () -> k.appendInput(0x20202020, 0x20202020, 0x20202020, 0x20202020, 0x20202020));
        S.due(40, () -> k.appendInput(0, 0, 0, 0, 0));
        S.due(40, () -> Witness.inputLength(k));
        S.due(true, () -> k.truncateInput(7));
        S.due(27, () -> k.appendInput(0, 0, 0, 0, 0));

        S.says("Each parameter contributes four bytes, the most significant byte first.", "a: first four bytes", "b: next four bytes", "c: next four bytes", "d: next four bytes", "e: last four bytes");
        KnotReader t = new KnotReader();
        t.appendInput(0x746f7069, 0x63206162, 0x63646566, 0x3b636c75, 0x73746572);
        t.appendInput(0x3b746f70, 0x20616263, 0x64656620, 0x31323334, 0x3b202020);
        S.due(1, t::loadCords);
        S.due("abcdef ", () -> Witness.topics(t));
        S.due("a1234=|", () -> Checks.all(t));
        for (int i = 0; i < 20; i++) {
            // one byte that belongs to no token among spaces, the sign bit set: its place is reported
            int at = i;
            int[] words = {0x20202020, 0x20202020, 0x20202020, 0x20202020, 0x20202020};
            words[i / 4] = words[i / 4] & ~(255 << 24 - i % 4 * 8) | 0xa0 << 24 - i % 4 * 8;
            KnotReader w = new KnotReader();
            w.appendInput(words[0], words[1], words[2], words[3], words[4]);
            w.runScript();
            S.due("error 1 at " + at, () -> Witness.error(w));
        }

        S.says("Returns the new length of the input buffer, or NONE if it would exceed 700; the buffer is then unchanged.");
        KnotReader f = new KnotReader();
        for (int i = 1; i <= 35; i++) {
            int length = 20 * i;
            S.due(length, () -> f.appendInput(0x20202020, 0x20202020, 0x20202020, 0x20202020, 0x20202020));
        }
        S.due(-1, () -> f.appendInput(0, 0, 0, 0, 0));
        S.due(700, () -> Witness.inputLength(f));
        for (int length = 699; length > 680; length--) {
            int shorter = length;
            S.due(true, () -> f.truncateInput(shorter));
            S.due(-1, () -> f.appendInput(0, 0, 0, 0, 0));
            S.due(shorter, () -> Witness.inputLength(f));
        }
        S.due(true, () -> f.truncateInput(680));
        S.due(700, () -> f.appendInput(0x20202020, 0x20202020, 0x20202020, 0x20202020, 0x20202041));
        S.due(-1, () -> f.appendInput(0, 0, 0, 0, 0));
        S.due(-1, f::runScript);
        S.due("error 1 at 699", () -> Witness.error(f));
    }

    private static void truncateInput() {
        S.section("Promise 3: truncateInput");
        S.says("Truncates the input buffer.", "length: the new length");
        KnotReader k = new KnotReader();
        Checks.feed(k, "dye 0 wool;cut 99;");
        S.due(true, () -> k.truncateInput(11));
        S.due(11, () -> Witness.inputLength(k));
        S.due(1, k::runScript);

        S.says("Returns true if the buffer was truncated; false, without a change, if length is negative or greater than the current length.");
        KnotReader t = new KnotReader();
        S.due(true, () -> t.truncateInput(0));
        S.due(false, () -> t.truncateInput(1));
        S.due(false, () -> t.truncateInput(-1));
        t.appendInput(0, 0, 0, 0, 0);
        for (int wrong : new int[] {21, 700, 701, -1, -20, Integer.MAX_VALUE, Integer.MIN_VALUE}) {
            S.due(false, () -> t.truncateInput(wrong));
            S.due(20, () -> Witness.inputLength(t));
        }
        S.due(true, () -> t.truncateInput(20));
        S.due(20, () -> Witness.inputLength(t));
        S.due(true, () -> t.truncateInput(19));
        S.due(false, () -> t.truncateInput(20));
        S.due(true, () -> t.truncateInput(1));
        S.due(true, () -> t.truncateInput(0));
        S.due(false, () -> t.truncateInput(1));
        S.due(20, () -> t.appendInput(0, 0, 0, 0, 0));
    }

    private static void loadCords() {
        S.section("Promise 4: loadCords");
        S.says("Parses the input buffer as a setup text (section 6) and empties the buffer in any case.");
        KnotReader k = new KnotReader();
        S.due(1, () -> Checks.load(k, C + "pendant a 1;"));
        S.due(0, () -> Witness.inputLength(k));
        S.due(-1, () -> Checks.load(k, "dye 0 a;"));
        S.due(0, () -> Witness.inputLength(k));
        S.due(-1, k::loadCords);
        S.due("error 7 at 0", () -> Witness.error(k));

        S.says("If the text has no error, it replaces all topics, clusters and cords; nothing can be undone and no state is saved.");
        KnotReader r = new KnotReader();
        r.saveState();
        r.dye(0, 1);
        r.cut(0);
        r.writeCluster(0);
        S.due(0, () -> Checks.load(r, "topic b;"));
        S.due("b ", () -> Witness.topics(r));
        S.due(0, r::clusterCount);
        S.due(0, r::cordCount);
        S.due(MISSING, r::undo);
        S.due(MISSING, r::restoreState);
        S.due("m0040(w0005(w0002))+w0090", () -> Witness.output(r));
        S.due(3, () -> Checks.load(r, "topic x;topic y;cluster;cluster;pendant y 1;top x 2;cluster;top y 3 nibbled 1;"));
        S.due("|x0002=y0001|y000?=|", () -> Checks.all(r));
        S.due(MISSING, r::undo);

        S.says("If the text has an error, only the buffer and the reported error change.");
        for (String text : new String[] {"", "x", "topic a;topic b;cluster;pendant a 1;cluster;pendant a 1 nibbled 9;", "topic a;cluster;top a 5"}) {
            KnotReader e = new KnotReader();
            KnotReader s = new KnotReader();
            for (KnotReader each : new KnotReader[] {e, s}) {
                each.dye(0, 1);
                each.saveState();
                each.nibble(1, 2);
                each.writeCluster(1);
                Checks.run(each, "y");
            }
            S.due(-1, () -> Checks.load(e, text));
            S.due(-1, () -> Checks.load(e, "y"));
            S.due(Witness.everything(s), () -> Witness.everything(e));
        }

        S.says("Returns the number of cords, or NONE if the text has an error.");
        S.due(0, () -> Checks.load(k, "topic a;cluster;"));
        S.due(1, () -> Checks.load(k, C + "top a 1;"));
        S.due(40, () -> Checks.load(k, C + "pendant a 1;".repeat(40)));
        S.due(-1, () -> Checks.load(k, C + "pendant a 1;".repeat(41)));
        S.due(40, k::cordCount);
    }

    private static void runScript() {
        S.section("Promise 5: runScript");
        S.says("Parses the input buffer as a script (section 6) and empties the buffer in any case.");
        KnotReader k = new KnotReader();
        S.due(1, () -> Checks.run(k, "dye 0 wool;"));
        S.due(0, () -> Witness.inputLength(k));
        S.due(-1, () -> Checks.run(k, "topic a;"));
        S.due(0, () -> Witness.inputLength(k));
        S.due(0, k::runScript);
        S.due("error 0 at -1", () -> Witness.error(k));

        S.says("If the text has no error, its statements are executed in order, like the methods addCluster, addPendant, addSubsidiary, cut, tieTop, setKnots, nibble, dye and repair.");
        KnotReader s = new KnotReader();
        KnotReader m = new KnotReader();
        S.due(9, () -> Checks.run(s, "cluster;pendant 2 wool 12;sub 8 maize 7;cut 3;tie 2 wool;knot 8 0 4;nibble 7 2;dye 8 maize;repair 2;"));
        m.addCluster();
        m.addPendant(2, 1, 12);
        m.addSubsidiary(8, 0, 7);
        m.cut(3);
        m.tieTop(2, 1);
        m.setKnots(8, 0, 4);
        m.nibble(7, 2);
        m.dye(8, 0);
        m.repair(2);
        S.due("w0021=m0014(m0007)", () -> Checks.written(s, 2));
        S.due(Witness.cords(m), () -> Witness.cords(s));

        S.says("Execution ends at the first statement whose method would throw; that statement has no effect.");
        String[] throwing = {"pendant 2 wool 1;", "sub 8 wool 1;", "sub 0 wool 1;", "sub 3 wool 1;", "cut 8;", "tie 2 wool;", "tie 0 wool;", "knot 8 0 0;", "knot 7 0 0;", "nibble 8 1;", "dye 8 wool;", "repair 0;", "repair 2;"};
        for (String statement : throwing) {
            KnotReader e = new KnotReader();
            S.due(0, () -> Checks.run(e, statement + "cut 0;"));
            S.due(FIRST, () -> Checks.all(e));
            S.due(1, () -> Checks.run(e, "dye 0 wool;" + statement + "cut 0;"));
            S.due("w" + FIRST.substring(1), () -> Checks.all(e));
            S.due("error 0 at -1", () -> Witness.error(e));
        }
        KnotReader full = with("topic a;" + "cluster;".repeat(6) + "pendant a 1;".repeat(39));
        S.due(1, () -> Checks.run(full, "pendant 0 a 2;sub 0 a 3;cut 0;"));
        S.due(0, () -> Checks.run(full, "cluster;cut 0;"));
        S.due(40, full::cordCount);
        S.due(1, () -> Checks.run(new KnotReader(), "nibble 0 2;nibble 0 1;cut 0;"));

        S.says("If the text has no error, the whole script is one change.");
        KnotReader c = new KnotReader();
        c.dye(0, 1);
        S.due(3, () -> Checks.run(c, "cut 0;cluster;nibble 0 3;"));
        S.due(0, () -> Checks.run(c, "cut 39;"));
        S.due(0, () -> Checks.run(c, ""));
        S.due(-1, () -> Checks.run(c, "cut 40;"));
        S.due(3, c::undo);
        S.due(2, c::undo);
        S.due(1, c::undo);
        S.due("w" + FIRST.substring(1), () -> Checks.all(c));
        S.due(0, c::undo);
        S.due(MISSING, c::undo);
        KnotReader nine = new KnotReader();
        for (int i = 0; i < 9; i++) {
            Checks.run(nine, "knot 0 0 " + i + ";");
        }
        S.due(7, nine::undo);
        S.due(7, () -> nine.knotsAt(0, 0));

        S.says("Returns the number of statements that were executed, or NONE if the text has an error.");
        S.due(0, () -> Checks.run(new KnotReader(), ""));
        S.due(0, () -> Checks.run(new KnotReader(), "cut 8;cut 0;"));
        S.due(1, () -> Checks.run(new KnotReader(), "cut 0;"));
        S.due(30, () -> Checks.run(new KnotReader(), "dye 0 maize;".repeat(30)));
        S.due(-1, () -> Checks.run(new KnotReader(), "dye 0 maize;".repeat(31)));
        S.due(-1, () -> Checks.run(new KnotReader(), "cut 0;cut 0"));
        S.due(29, () -> Checks.run(new KnotReader(), "dye 0 maize;".repeat(29) + "cut 8;"));
        // nothing of a script is left for the next one
        KnotReader r = new KnotReader();
        for (int many : new int[] {30, 0, 1, 31, 30, 31, 0, 31, 2, 0}) {
            S.due(many > 30 ? -1 : many, () -> Checks.run(r, "dye 0 wool;".repeat(many)));
        }
    }

    private static void errors() {
        S.section("Promise 6: errorCode");
        KnotReader k = new KnotReader();
        S.says("Returns the error code of the latest call of loadCords or runScript.", "Returns the error code; NO_ERROR if that call found no error or there was no such call.");
        S.due(0, k::errorCode);
        String[] setups = {"x", "sub 2", "cluster;sub 5", "topic a;topic a;", "cluster;top a 1;", "cluster;".repeat(7), "cluster;"};
        int[] codes = {1, 5, 2, 3, 4, 6, 7};
        for (int i = 0; i < setups.length; i++) {
            Checks.load(k, setups[i]);
            S.due(codes[i], k::errorCode);
            S.due(codes[i], k::errorCode);
        }
        Checks.run(k, "dye 0 wool;");
        S.due(0, k::errorCode);
        Checks.run(k, "dye 99 wool;");
        S.due(2, k::errorCode);
        Checks.run(k, "cut 30;");
        S.due(0, k::errorCode);
        Checks.run(k, "cut");
        S.due(1, k::errorCode);
        Checks.load(k, "topic b;");
        S.due(0, k::errorCode);

        S.section("Promise 7: errorOffset");
        KnotReader o = new KnotReader();
        S.says("Returns the error offset of the latest call of loadCords or runScript.", "Returns the offset; NONE if errorCode() is NO_ERROR.");
        S.due(-1, o::errorOffset);
        Checks.load(o, "x");
        S.due(0, o::errorOffset);
        Checks.load(o, " ".repeat(699) + "x");
        S.due(699, o::errorOffset);
        Checks.load(o, " ".repeat(700));
        S.due(700, o::errorOffset);
        Checks.run(o, " ".repeat(700));
        S.due(-1, o::errorOffset);
        Checks.run(o, "cut 0;cut 40;");
        S.due(10, o::errorOffset);
        Checks.run(o, "cut 39;");
        S.due(-1, o::errorOffset);
        Checks.run(o, "cut");
        S.due(3, o::errorOffset);
        o.cut(0);
        o.undo();
        S.due(3, o::errorOffset);
        Checks.load(o, "topic b;");
        S.due(-1, o::errorOffset);
    }

    /** Answers of the six counts: of topics, clusters, cords, knots, nibbled cords, matching clusters. */
    private static int count(int which, KnotReader k) {
        int[] counts = {k.topicCount(), k.clusterCount(), k.cordCount(), k.knotCount(), k.nibbledCount(), k.matchingCount()};
        return counts[which];
    }

    private static void counts() {
        String[] headings = {"Promise 8: topicCount", "Promise 9: clusterCount", "Promise 10: cordCount", "Promise 11: knotCount", "Promise 12: nibbledCount", "Promise 13: matchingCount"};
        String[] sentences = {"Returns the number of topics.", "Returns the number of clusters.", "Returns the number of cords.", "Returns the number of knots at all places that are not nibbled.",
            "Returns the number of cords that have nibbled places.", "Returns the number of clusters whose state is MATCHING."};
        String eight = "topic a;topic b;topic c;topic d;topic e;topic f;topic g;topic h;";
        String[] setups = {"topic a;", eight, "topic a;" + "cluster;".repeat(6), "topic a;" + "cluster;top a 0;".repeat(6), C + "pendant a 9999;".repeat(40), C + "top a 0;" + "pendant a 9999 nibbled 4;".repeat(26),
            C + "pendant a 9999 nibbled 3;sub 2 a 9999 nibbled 2;sub 3 a 9999 nibbled 1;pendant a 9999;", C + "top a 1;pendant a 1;cluster;top a 2;pendant a 1;cluster;pendant a 1;cluster;top a 1;pendant a 1 nibbled 1;cluster;top a 3;pendant a 1;sub 2 a 2;"};
        int[][] due = {{1, 0, 0, 0, 0, 0}, {8, 0, 0, 0, 0, 0}, {1, 6, 0, 0, 0, 0}, {1, 6, 6, 0, 0, 6}, {1, 1, 40, 1440, 0, 0}, {1, 1, 27, 0, 26, 0}, {1, 1, 4, 90, 3, 0}, {1, 5, 10, 13, 1, 2}};
        for (int i = 0; i < 6; i++) {
            int which = i;
            S.section(headings[i]);
            S.says(sentences[i], sentences[i]);
            S.due(new int[] {2, 2, 8, 45, 1, 1}[i], () -> count(which, new KnotReader()));
            for (int j = 0; j < setups.length; j++) {
                String setup = setups[j];
                S.due(due[j][i], () -> count(which, with(setup)));
            }
            KnotReader k = new KnotReader();
            k.cut(5);
            k.cut(6);
            S.due(new int[] {2, 2, 6, 36, 0, 1}[i], () -> count(which, k));
            k.undo();
            k.undo();
            S.due(new int[] {2, 2, 8, 45, 1, 1}[i], () -> count(which, k));
            // what was there once is not counted any more
            Checks.load(k, "topic a;" + "cluster;top a 9;pendant a 9;".repeat(6));
            Checks.load(k, C + "top a 9;pendant a 9;");
            S.due(new int[] {1, 1, 2, 18, 0, 1}[i], () -> count(which, k));
        }
    }

    private static void topicByte() {
        S.section("Promise 14: topicByte");
        S.says("Returns a letter of the name of a topic.", A_TOPIC, "index: index of the letter, from 0", "Returns the letter as a byte, or NONE if there is no such letter.");
        KnotReader k = with("topic a;topic azbycx;topic zz;");
        S.due(97, () -> k.topicByte(0, 0));
        S.due(-1, () -> k.topicByte(0, 1));
        for (int i = 0; i < 6; i++) {
            int at = i;
            S.due((int) "azbycx".charAt(i), () -> k.topicByte(1, at));
        }
        S.due(-1, () -> k.topicByte(1, 6));
        S.due(122, () -> k.topicByte(2, 1));
        S.due(-1, () -> k.topicByte(2, 2));
        for (int wrong : new int[] {-1, 7, 8, 12, 31, 32, 64, 256, Integer.MAX_VALUE, Integer.MIN_VALUE}) {
            S.due(-1, () -> k.topicByte(1, wrong));
        }
        S.says(NO_TOPIC);
        topicEnds((r, i) -> r.topicByte(i, 0));
        topicEnds((r, i) -> r.topicByte(i, -1));
    }

    private static final String TREE = "topic a;topic b;topic c;cluster;cluster;top b 60 nibbled 1;pendant c 5;sub 2 a 6;sub 3 b 7;sub 3 c 8 nibbled 4;sub 2 b 9;pendant a 10;cluster;cluster;pendant b 9999;sub 2 c 1234 nibbled 2;cluster;";
    private static final int CORDS = 9;

    private static void all(Query query, int... answers) {
        KnotReader k = with(TREE);
        for (int i = 0; i < CORDS; i++) {
            int cord = i;
            S.due(answers[i], () -> query.of(k, cord));
        }
    }

    private static void places() {
        S.section("Promise 15: clusterOf");
        S.says("Returns the cluster of a cord.", A_CORD, "Returns the index of the cluster.");
        all((k, i) -> k.clusterOf(i), 1, 1, 1, 1, 1, 1, 1, 3, 3);
        S.due(5, () -> with("topic a;" + "cluster;".repeat(6) + "top a 1;").clusterOf(0));
        S.due(0, () -> with(C + "top a 1;" + "cluster;".repeat(5)).clusterOf(0));
        S.says(NO_CORD);
        cordEnds((k, i) -> k.clusterOf(i));

        S.section("Promise 16: depthOf");
        S.says("Returns the depth of a cord.", A_CORD, "Returns the depth, 0 to 3.");
        all((k, i) -> k.depthOf(i), 0, 1, 2, 3, 3, 2, 1, 1, 2);
        S.says(NO_CORD);
        cordEnds((k, i) -> k.depthOf(i));

        S.section("Promise 17: parentOf");
        S.says("Returns the cord of which a cord is a subsidiary.", A_CORD, "Returns the index of the cord, or NONE for a top cord or a pendant.");
        all((k, i) -> k.parentOf(i), -1, -1, 1, 2, 2, 1, -1, -1, 7);
        S.due(-1, () -> with(C + "pendant a 1;").parentOf(0));
        S.due(38, () -> with(C + "pendant a 1;".repeat(39) + "sub 2 a 1;").parentOf(39));
        S.says(NO_CORD);
        cordEnds((k, i) -> k.parentOf(i));
    }

    private static void cordQueries() {
        S.section("Promise 18: topicOf");
        S.says("Returns the topic of a cord.", A_CORD, "Returns the index of the topic.");
        all((k, i) -> k.topicOf(i), 1, 2, 0, 1, 2, 1, 0, 1, 2);
        S.due(7, () -> with("topic a;topic b;topic c;topic d;topic e;topic f;topic g;topic h;cluster;top h 1;").topicOf(0));
        S.says(NO_CORD);
        cordEnds((k, i) -> k.topicOf(i));

        S.section("Promise 19: subsidiariesOf");
        S.says("Returns the number of subsidiaries of a cord.", A_CORD, "Returns the number of subsidiaries, without their own ones.");
        all((k, i) -> k.subsidiariesOf(i), 0, 2, 2, 0, 0, 0, 0, 1, 0);
        S.due(39, () -> with(C + "pendant a 1;" + "sub 2 a 1;".repeat(39)).subsidiariesOf(0));
        S.due(1, () -> with(C + "pendant a 1;sub 2 a 1;" + "sub 3 a 1;".repeat(38)).subsidiariesOf(0));
        S.due(38, () -> with(C + "pendant a 1;sub 2 a 1;" + "sub 3 a 1;".repeat(38)).subsidiariesOf(1));
        S.due(0, () -> with(C + "top a 1;" + "pendant a 1;".repeat(39)).subsidiariesOf(0));
        S.says(NO_CORD);
        cordEnds((k, i) -> k.subsidiariesOf(i));

        S.section("Promise 20: nibbledPlaces");
        S.says("Returns the number of nibbled places of a cord.", A_CORD, "Returns the number of places, 0 to 4.");
        all((k, i) -> k.nibbledPlaces(i), 1, 0, 0, 0, 4, 0, 0, 0, 2);
        S.due(3, () -> with(C + "top a 1 nibbled 3;").nibbledPlaces(0));
        S.says(NO_CORD);
        cordEnds((k, i) -> k.nibbledPlaces(i));

        S.section("Promise 21: knownValue");
        S.says("Returns the known value of a cord.", A_CORD, "Returns the known value.");
        all((k, i) -> k.knownValue(i), 60, 5, 6, 7, 0, 9, 10, 9999, 1200);
        S.due(9000, () -> with(C + "top a 9999 nibbled 3;").knownValue(0));
        S.says(NO_CORD);
        cordEnds((k, i) -> k.knownValue(i));
    }

    private static void lowestAndHighest() {
        S.section("Promise 22: lowestTotal");
        S.says("Returns the lowest total that a cord can have, with any knots at the nibbled places.", A_CORD, "Returns the total.");
        all((k, i) -> k.lowestTotal(i), 60, 27, 13, 7, 0, 9, 10, 11199, 1200);
        S.due(0, () -> with(C + "pendant a 9999 nibbled 4;".repeat(27)).lowestTotal(26));
        S.due(399960, () -> with(C + "pendant a 9999;sub 2 a 9999;" + "sub 3 a 9999;".repeat(38)).lowestTotal(0));
        S.says(NO_CORD);
        cordEnds((k, i) -> k.lowestTotal(i));

        S.section("Promise 23: highestTotal");
        S.says("Returns the highest total that a cord can have, with any knots at the nibbled places.", A_CORD, "Returns the total.");
        all((k, i) -> k.highestTotal(i), 69, 10026, 10012, 7, 9999, 9, 10, 11298, 1299);
        int[] most = {5699, 5999, 9999};
        for (int places = 2; places <= 4; places++) {
            String lost = "pendant a 5678 nibbled " + places + ";";
            S.due(most[places - 2], () -> with(C + lost).highestTotal(0));
        }
        S.due(5679, () -> with(C + "pendant a 5678 nibbled 1;").highestTotal(0));
        S.due(40 * 9999, () -> allNibbled().highestTotal(0));
        S.says(NO_CORD);
        cordEnds((k, i) -> k.highestTotal(i));
    }

    private static KnotReader allNibbled() {
        KnotReader k = with(C + "pendant a 1;sub 2 a 2;" + "sub 3 a 9;".repeat(38));
        for (int i = 0; i < 40; i++) {
            k.nibble(i, 4);
        }
        return k;
    }

    private static void knotsAt() {
        S.section("Promise 24: knotsAt");
        S.says("Returns the knots at a place of a cord.", A_CORD, "place: 0 to 3", "Returns the number of knots, or NONE if the place is nibbled.");
        int[][] due = {{9, 0, 3, 7}, {-1, 0, 3, 7}, {-1, -1, 3, 7}, {-1, -1, -1, 7}, {-1, -1, -1, -1}};
        for (int n = 0; n <= 4; n++) {
            KnotReader k = with(C + "pendant a 1;pendant a 7309;");
            if (n > 0) {
                k.nibble(1, n);
            }
            for (int i = 0; i < 4; i++) {
                int place = i;
                S.due(due[n][i], () -> k.knotsAt(1, place));
                S.due(place == 0 ? 1 : 0, () -> k.knotsAt(0, place));
            }
        }
        S.says(NO_CORD);
        cordEnds((k, i) -> k.knotsAt(i, 0));
        S.due(INDEX, () -> new KnotReader().knotsAt(8, 4));
        S.due(INDEX, () -> new KnotReader().knotsAt(-1, -1));
        S.says("Throws IllegalArgumentException if place is out of range");
        for (int wrong : new int[] {-1, 4, 5, 32, 256, Integer.MAX_VALUE, Integer.MIN_VALUE}) {
            S.due(ARGUMENT, () -> new KnotReader().knotsAt(0, wrong));
            S.due(ARGUMENT, () -> new KnotReader().knotsAt(7, wrong));
        }
    }

    private static void completeness() {
        S.section("Promise 25: isComplete");
        S.says("Tells whether a cord is complete.", A_CORD, "Returns true if it is complete.");
        all((k, i) -> k.isComplete(i) ? 1 : 0, 0, 0, 0, 1, 0, 1, 1, 0, 0);
        S.due(true, () -> with(C + "top a 1;pendant a 1 nibbled 1;").isComplete(0));
        S.due(true, () -> with(C + "pendant a 1;cluster;pendant a 1 nibbled 1;").isComplete(0));
        S.says(NO_CORD);
        cordEnds((k, i) -> k.isComplete(i));

        S.section("Promise 26: totalOf");
        S.says("Returns the total of a cord.", A_CORD, "Returns the total.");
        S.due(137, () -> new KnotReader().totalOf(0));
        S.due(47, () -> new KnotReader().totalOf(1));
        S.due(7, () -> new KnotReader().totalOf(2));
        S.due(0, () -> with(C + "pendant a 0;").totalOf(0));
        S.due(399960, () -> with(C + "pendant a 9999;sub 2 a 9999;" + "sub 3 a 9999;".repeat(38)).totalOf(0));
        S.says(NO_CORD);
        cordEnds((k, i) -> k.totalOf(i));
        S.says("Throws NoSuchElementException if the cord is not complete");
        KnotReader k = with(TREE);
        for (int i : new int[] {0, 1, 2, 4, 7, 8}) {
            S.due(MISSING, () -> k.totalOf(i));
        }
        for (int i : new int[] {3, 5, 6}) {
            S.due(new int[] {7, 0, 9, 10}[i - 3], () -> k.totalOf(i));
        }
    }

    private static void inClusters(Query query, int... answers) {
        KnotReader k = with(TREE);
        for (int i = 0; i < 5; i++) {
            int cluster = i;
            S.due(answers[i], () -> query.of(k, cluster));
        }
    }

    private static void clusterQueries() {
        S.section("Promise 27: pendantsIn");
        S.says("Returns the number of pendants of a cluster.", A_CLUSTER, "Returns the number of pendants.");
        inClusters((k, i) -> k.pendantsIn(i), 0, 2, 0, 1, 0);
        S.due(0, () -> with(C + "top a 1;").pendantsIn(0));
        S.due(40, () -> with(C + "pendant a 1;".repeat(40)).pendantsIn(0));
        S.says(NO_CLUSTER);
        clusterEnds((k, i) -> k.pendantsIn(i));

        S.section("Promise 28: cordsIn");
        S.says("Returns the number of cords of a cluster.", A_CLUSTER, "Returns the number of cords, including the top cord and all subsidiaries.");
        inClusters((k, i) -> k.cordsIn(i), 0, 7, 0, 2, 0);
        S.due(1, () -> with(C + "top a 1;").cordsIn(0));
        S.due(40, () -> with("topic a;" + "cluster;".repeat(6) + "top a 1;" + "pendant a 1;".repeat(39)).cordsIn(5));
        S.says(NO_CLUSTER);
        clusterEnds((k, i) -> k.cordsIn(i));

        S.section("Promise 29: topOf");
        S.says("Returns the top cord of a cluster.", A_CLUSTER, "Returns the index of the cord, or NONE if there is none.");
        inClusters((k, i) -> k.topOf(i), -1, 0, -1, -1, -1);
        S.due(5, () -> new KnotReader().topOf(1));
        S.due(39, () -> with(C + "pendant a 1;".repeat(39) + "cluster;top a 1;").topOf(1));
        S.due(-1, () -> with(C + "cluster;top a 1;").topOf(0));
        S.says(NO_CLUSTER);
        clusterEnds((k, i) -> k.topOf(i));

        S.section("Promise 30: firstPendant");
        S.says("Returns the first pendant of a cluster.", A_CLUSTER, "Returns the index of the cord, or NONE if there is none.");
        inClusters((k, i) -> k.firstPendant(i), -1, 1, -1, 7, -1);
        S.due(-1, () -> with(C + "top a 1;").firstPendant(0));
        S.due(-1, () -> with(C + "top a 1;cluster;pendant a 1;").firstPendant(0));
        S.due(0, () -> with(C + "pendant a 1;").firstPendant(0));
        S.due(39, () -> with(C + "pendant a 1;".repeat(39) + "cluster;pendant a 1;").firstPendant(1));
        S.says(NO_CLUSTER);
        clusterEnds((k, i) -> k.firstPendant(i));
    }

    private static void states() {
        S.section("Promise 31: stateOf");
        S.says("Returns the state of a cluster.", A_CLUSTER, "Returns NO_TOP, UNCLEAR, MATCHING or DIFFERING.");
        inClusters((k, i) -> k.stateOf(i), 0, 1, 0, 0, 0);
        S.due(KnotReader.MATCHING, () -> new KnotReader().stateOf(0));
        S.due(KnotReader.MATCHING, () -> with(C + "top a 0;").stateOf(0));
        S.due(KnotReader.MATCHING, () -> with(C + "top a 9999;pendant a 9998;sub 2 a 0;sub 3 a 1;").stateOf(0));
        S.due(KnotReader.DIFFERING, () -> with(C + "top a 9999;pendant a 9999;sub 2 a 0;sub 3 a 1;").stateOf(0));
        S.due(KnotReader.DIFFERING, () -> with(C + "top a 1;").stateOf(0));
        S.says(NO_CLUSTER);
        clusterEnds((k, i) -> k.stateOf(i));

        S.section("Promise 32: guessObstacle");
        S.says("Returns why the nibbled value of a cluster cannot be guessed.", A_CLUSTER, "Returns CAN_GUESS, or the smallest of TOP_MISSING, NOTHING_NIBBLED, SEVERAL_NIBBLED and IMPOSSIBLE that applies.");
        inClusters((k, i) -> k.guessObstacle(i), 1, 3, 1, 1, 1);
        S.due(KnotReader.CAN_GUESS, () -> new KnotReader().guessObstacle(1));
        S.due(KnotReader.NOTHING_NIBBLED, () -> new KnotReader().guessObstacle(0));
        S.due(KnotReader.TOP_MISSING, () -> with(C + "pendant a 1;").guessObstacle(0));
        S.due(KnotReader.TOP_MISSING, () -> with(C + "pendant a 1 nibbled 1;pendant a 1 nibbled 1;").guessObstacle(0));
        S.due(KnotReader.SEVERAL_NIBBLED, () -> with(C + "top a 0;pendant a 9000 nibbled 1;pendant a 1 nibbled 1;").guessObstacle(0));
        S.due(KnotReader.IMPOSSIBLE, () -> with(C + "top a 0;pendant a 10 nibbled 1;").guessObstacle(0));
        S.due(KnotReader.CAN_GUESS, () -> with(C + "top a 10;pendant a 10 nibbled 1;").guessObstacle(0));
        S.says(NO_CLUSTER);
        clusterEnds((k, i) -> k.guessObstacle(i));
    }

    private static void sumsAndGuesses() {
        S.section("Promise 33: sumOf");
        S.says("Returns the sum of a cluster.", A_CLUSTER, "Returns the sum.");
        S.due(137, () -> new KnotReader().sumOf(0));
        S.due(0, () -> with(TREE).sumOf(0));
        S.due(0, () -> with(C + "top a 5 nibbled 1;").sumOf(0));
        S.due(3, () -> with(C + "top a 5 nibbled 4;pendant a 3;").sumOf(0));
        S.due(399960, () -> with(C + "pendant a 9999;".repeat(40)).sumOf(0));
        S.says(NO_CLUSTER);
        clusterEnds((k, i) -> k.sumOf(i));
        S.says("Throws NoSuchElementException if a pendant of the cluster is not complete");
        S.due(MISSING, () -> new KnotReader().sumOf(1));
        S.due(MISSING, () -> with(TREE).sumOf(1));
        S.due(MISSING, () -> with(TREE).sumOf(3));
        S.due(MISSING, () -> with(C + "pendant a 1 nibbled 1;").sumOf(0));
        S.due(MISSING, () -> with(C + "pendant a 1;sub 2 a 1;sub 3 a 1 nibbled 1;").sumOf(0));
        S.due(1, () -> with(C + "pendant a 1;cluster;pendant a 1 nibbled 1;").sumOf(0));

        S.section("Promise 34: guessIn");
        S.says("Returns the value that can be guessed in a cluster.", A_CLUSTER, "Returns the value.");
        S.due(37, () -> new KnotReader().guessIn(1));
        S.due(0, () -> with(C + "top a 0 nibbled 1;").guessIn(0));
        S.due(9999, () -> with(C + "top a 0 nibbled 4;pendant a 9999;").guessIn(0));
        S.due(9999, () -> with(C + "top a 9999;pendant a 0 nibbled 4;").guessIn(0));
        S.says(NO_CLUSTER);
        S.due(INDEX, () -> new KnotReader().guessIn(2));
        S.due(INDEX, () -> new KnotReader().guessIn(-1));
        S.due(INDEX, () -> with("topic a;").guessIn(0));
        S.says("Throws NoSuchElementException if guessObstacle(cluster) is not CAN_GUESS");
        S.due(MISSING, () -> new KnotReader().guessIn(0));
        S.due(MISSING, () -> with(TREE).guessIn(0));
        S.due(MISSING, () -> with(TREE).guessIn(1));
        S.due(MISSING, () -> with(C + "pendant a 1 nibbled 1;").guessIn(0));
        S.due(MISSING, () -> with(C + "top a 0;pendant a 10 nibbled 1;").guessIn(0));

        S.section("Promise 35: nibbledCord");
        S.says("Returns the cord whose value can be guessed in a cluster.", A_CLUSTER, "Returns the index of the only cord of the cluster that has nibbled places, or NONE if there is none or there are several.");
        S.due(7, () -> new KnotReader().nibbledCord(1));
        inClusters((k, i) -> k.nibbledCord(i), -1, -1, -1, 8, -1);
        S.due(0, () -> with(C + "top a 1 nibbled 1;pendant a 1;").nibbledCord(0));
        S.due(39, () -> with(C + "pendant a 1;".repeat(39) + "pendant a 1 nibbled 1;").nibbledCord(0));
        S.due(-1, () -> with(C + "pendant a 1;".repeat(38) + "pendant a 1 nibbled 1;".repeat(2)).nibbledCord(0));
        S.due(-1, () -> with(C + "top a 1 nibbled 1;pendant a 1 nibbled 1;pendant a 1 nibbled 1;").nibbledCord(0));
        S.due(0, () -> with(C + "top a 1 nibbled 1;cluster;top a 1 nibbled 1;").nibbledCord(0));
        S.due(1, () -> with(C + "top a 1 nibbled 1;cluster;top a 1 nibbled 1;").nibbledCord(1));
        S.says(NO_CLUSTER);
        clusterEnds((k, i) -> k.nibbledCord(i));
    }

    private static void topicQueries() {
        S.section("Promise 36: cordsOfTopic");
        S.says("Returns the number of cords of a topic.", A_TOPIC, "Returns the number of cords.");
        S.due(3, () -> new KnotReader().cordsOfTopic(0));
        S.due(5, () -> new KnotReader().cordsOfTopic(1));
        S.due(0, () -> with("topic a;").cordsOfTopic(0));
        S.due(40, () -> with(C + "top a 0;" + "pendant a 1;".repeat(39)).cordsOfTopic(0));
        S.due(0, () -> with("topic b;" + C + "pendant a 1;").cordsOfTopic(0));
        S.due(1, () -> lastCut().cordsOfTopic(1));
        S.says(NO_TOPIC);
        topicEnds((k, i) -> k.cordsOfTopic(i));

        S.section("Promise 37: sumOfTopic");
        S.says("Returns the sum of a topic.", A_TOPIC, "Returns the sum of the known values of all cords of the topic that are not top cords.");
        S.due(70, () -> new KnotReader().sumOfTopic(0));
        S.due(120, () -> new KnotReader().sumOfTopic(1));
        S.due(0, () -> with(C + "top a 9;cluster;top a 8;").sumOfTopic(0));
        S.due(7 + 1200 + 9000, () -> with(C + "top a 5;pendant a 7;sub 2 a 1234 nibbled 2;sub 3 a 9999 nibbled 3;pendant a 9 nibbled 4;").sumOfTopic(0));
        S.due(399960, () -> with(C + "pendant a 9999;".repeat(40)).sumOfTopic(0));
        S.due(3, () -> lastCut().sumOfTopic(1));
        S.says(NO_TOPIC);
        topicEnds((k, i) -> k.sumOfTopic(i));
    }

    private static void bests() {
        S.section("Promise 38: mostUsedTopic");
        S.says("Returns the topic with the most cords.", "Returns the index of the topic; the lowest index if several have the same number of cords.");
        S.due(1, () -> new KnotReader().mostUsedTopic());
        S.due(0, () -> with("topic a;topic b;topic c;").mostUsedTopic());
        S.due(1, () -> with("topic a;topic b;topic c;cluster;pendant c 1;top b 1;").mostUsedTopic());
        S.due(2, () -> with("topic a;topic b;topic c;cluster;pendant c 1;pendant b 1;pendant c 1;").mostUsedTopic());
        S.due(0, () -> with("topic a;topic b;topic c;cluster;pendant c 1;pendant b 1;pendant a 1;").mostUsedTopic());
        S.due(7, () -> with("topic a;topic b;topic c;topic d;topic e;topic f;topic g;topic h;cluster;pendant h 1;").mostUsedTopic());

        S.section("Promise 39: greatestCord");
        S.says("Returns the cord with the greatest known value.", "Returns the index of the cord; the lowest index if several have the same value; NONE if there is no cord.");
        S.due(0, () -> new KnotReader().greatestCord());
        S.due(-1, () -> with("topic a;").greatestCord());
        S.due(-1, () -> with(C).greatestCord());
        S.due(0, () -> with(C + "pendant a 0;pendant a 0;").greatestCord());
        S.due(1, () -> with(C + "pendant a 3;sub 2 a 4;cluster;top a 4;").greatestCord());
        S.due(39, () -> with(C + "pendant a 1;".repeat(39) + "pendant a 2;").greatestCord());
        S.due(1, () -> with(C + "pendant a 9999 nibbled 4;pendant a 1;").greatestCord());
        S.due(0, () -> with(C + "pendant a 9 nibbled 1;").greatestCord());
        S.due(1, () -> lastCut().greatestCord());
    }

    private static void parts() {
        S.section("Promise 40: averageValue");
        S.says("Returns the average known value.", "Returns the sum of the known values of all cords converted to double, divided by the number of cords converted to double; 0 if there is no cord.");
        S.due(387.0 / 8.0, () -> new KnotReader().averageValue());
        S.due(0.0, () -> with("topic a;").averageValue());
        S.due(0.0, () -> with(C).averageValue());
        S.due(0.0, () -> with(C + "pendant a 0;").averageValue());
        S.due(9999.0, () -> with(C + "pendant a 9999;".repeat(40)).averageValue());
        S.due(10.0 / 3.0, () -> with(C + "top a 1;pendant a 9;sub 2 a 7 nibbled 1;").averageValue());
        S.due(7.0, () -> with(C + "pendant a 7;").averageValue());
        S.due(2.0, () -> lastCut().averageValue());
        S.due(0.0, () -> cutAll().averageValue());

        S.section("Promise 41: nibbledPart");
        S.says("Returns the part of cords that are nibbled.", "Returns the number of cords that have nibbled places converted to float, divided by the number of cords converted to float; 0 if there is no cord.");
        S.due(1.0f / 8.0f, () -> new KnotReader().nibbledPart());
        S.due(0.0f, () -> with("topic a;").nibbledPart());
        S.due(0.0f, () -> with(C + "pendant a 1;").nibbledPart());
        S.due(1.0f, () -> allNibbled().nibbledPart());
        S.due(2.0f / 3.0f, () -> with(C + "top a 1 nibbled 4;pendant a 9 nibbled 1;sub 2 a 7;").nibbledPart());
        S.due(1.0f, () -> with(C + "pendant a 7 nibbled 1;").nibbledPart());
        S.due(0.0f, () -> lastCut().nibbledPart());
        S.due(0.0f, () -> cutAll().nibbledPart());
    }

    /** An object whose greatest cord was its last one and is cut off. */
    private static KnotReader lastCut() {
        KnotReader k = with("topic a;topic b;cluster;pendant a 1;pendant b 3;pendant b 9;sub 2 b 8 nibbled 1;");
        k.cut(2);
        return k;
    }

    private static KnotReader cutAll() {
        KnotReader k = new KnotReader();
        while (k.cordCount() > 0) {
            k.cut(0);
        }
        return k;
    }

    private static void consistency() {
        S.section("Promise 42: isConsistent");
        S.says("Checks the cords.", "Returns true if all of this holds, which is always the case.");
        KnotReader first = new KnotReader();
        S.due(true, first::isConsistent);
        S.due(MISSING, first::undo);
        S.due(MISSING, first::restoreState);
        S.due(FIRST, () -> Checks.all(first));
        for (KnotReader k : new KnotReader[] {with("topic a;"), with(C), with(TREE), allNibbled(), cutAll(), with(C + "pendant a 9999;".repeat(40)), with("topic a;" + "cluster;top a 0 nibbled 4;pendant a 9999;".repeat(6))}) {
            String before = Witness.cords(k);
            S.due(true, k::isConsistent);
            S.due(before, () -> Witness.cords(k));
        }

        KnotReader k = with(TREE);
        S.says("Each cord is found by its index.");
        for (int i = 0; i < CORDS; i++) {
            int cord = i;
            S.due(true, () -> {
                int start = 0;
                for (int cluster = 0; cluster < k.clusterOf(cord); cluster++) {
                    start += k.cordsIn(cluster);
                }
                return cord >= start && cord < start + k.cordsIn(k.clusterOf(cord));
            });
        }
        S.says("The cords of all clusters add up to all cords.");
        S.due(CORDS, () -> k.cordsIn(0) + k.cordsIn(1) + k.cordsIn(2) + k.cordsIn(3) + k.cordsIn(4));
        S.due(CORDS, k::cordCount);
        S.says("No cord is deeper than 3, and no top cord has subsidiaries.");
        for (int i = 0; i < CORDS; i++) {
            int cord = i;
            S.due(true, () -> k.depthOf(cord) <= 3 && (k.depthOf(cord) != 0 || k.subsidiariesOf(cord) == 0));
        }
        S.says("The lowest total of a cord is its highest one if and only if it is complete.");
        for (int i = 0; i < CORDS; i++) {
            int cord = i;
            S.due(k.isComplete(i), () -> k.lowestTotal(cord) == k.highestTotal(cord));
        }
        S.says("Each sum that is known is the same from cord to cord and by recursion.");
        S.due(11199, () -> k.lowestTotal(7));
        S.due(27, () -> k.knownValue(1) + k.lowestTotal(2) + k.lowestTotal(5));
        S.due(k.lowestTotal(1), () -> k.knownValue(1) + k.lowestTotal(2) + k.lowestTotal(5));
        S.says("With every value that can be guessed, the cluster would be MATCHING.");
        KnotReader g = with("topic a;" + "cluster;top a 9999;pendant a 0 nibbled 4;sub 2 a 8;".repeat(6));
        for (int i = 0; i < 6; i++) {
            int cluster = i;
            S.due(9991, () -> g.repair(cluster));
            S.due(KnotReader.MATCHING, () -> g.stateOf(cluster));
            S.due(true, g::isConsistent);
        }
    }
}

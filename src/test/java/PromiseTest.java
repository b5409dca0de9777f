import java.util.NoSuchElementException;

/** The promises 1 to 56, each with ordinary inputs, its edges and wrong inputs. */
public final class PromiseTest {
    private static final Checks C = new Checks();
    private static final Class<?> INDEX = IndexOutOfBoundsException.class;
    private static final Class<?> ARGUMENT = IllegalArgumentException.class;
    private static final Class<?> STATE = IllegalStateException.class;
    private static final Class<?> MISSING = NoSuchElementException.class;
    private static final String FIRST = "m0137=m0040(w0005(w0002))+w0090|w0060=w0023+m003?|";
    private static final int[] WRONG = {-1, Integer.MIN_VALUE, Integer.MAX_VALUE};

    public static void main(String[] args) {
        newObject();
        input();
        setups();
        setupErrors();
        scripts();
        scriptErrors();
        reported();
        counts();
        leftovers();
        topicBytes();
        cordQueries();
        totals();
        clusterQueries();
        statesAndGuesses();
        topicQueries();
        averages();
        noSuchThing();
        adding();
        cutting();
        tying();
        knotsAndNibbling();
        dyeing();
        repairing();
        undoing();
        writing();
        saving();
        C.close("PromiseTest");
    }

    private static void newObject() {
        KnotReader k = new KnotReader();
        C.due("1 cords", Checks.all(k), FIRST);
        k = new KnotReader();
        C.due("1 output", k.outputByte(0), -1);
        C.due("1 input", k.appendInput(0, 0, 0, 0, 0), 20);
        C.due("1 error", k.errorCode(), 0);
        C.due("1 offset", k.errorOffset(), -1);
        C.thrown("1 undo", k::undo, MISSING);
        C.thrown("1 restore", k::restoreState, MISSING);
    }

    private static void input() {
        KnotReader k = new KnotReader();
        for (int i = 1; i <= 35; i++) {
            C.due("2 length", k.appendInput(0x20202020, 0x20202020, 0x20202020, 0x20202020, 0x20202020), 20 * i);
        }
        C.due("2 over 700", k.appendInput(1, 2, 3, 4, 5), -1);
        C.due("3 too long", k.truncateInput(701), false);
        C.due("3 negative", k.truncateInput(-1), false);
        C.due("3 least", k.truncateInput(Integer.MIN_VALUE), false);
        C.due("3 the same", k.truncateInput(700), true);
        C.due("3 shorter", k.truncateInput(681), true);
        C.due("2 still over", k.appendInput(1, 2, 3, 4, 5), -1);
        C.due("3 not longer", k.truncateInput(682), false);
        C.due("3 to 680", k.truncateInput(680), true);
        C.due("2 to 700", k.appendInput(0x746f7069, 0x63206162, 0x3b207a7b, 0x20202020, 0x20202020), 700);
        C.due("2 text", k.loadCords(), -1);
        C.due("2 place of {", k.errorOffset(), 690);
        C.due("2 emptied", k.appendInput(0, 0, 0, 0, 0), 20);
        C.due("3 to 0", k.truncateInput(0), true);
        C.due("3 1 of 0", k.truncateInput(1), false);
        // bytes beyond 127 are bytes too
        k.appendInput(0x746f7069, 0x63206162, 0x3bff2020, 0x80808080, -1);
        C.due("2 high byte", k.loadCords(), -1);
        C.due("2 its place", k.errorOffset(), 9);
        C.due("2 its code", k.errorCode(), 1);
    }

    private static void setups() {
        KnotReader k = new KnotReader();
        k.addCluster();
        k.saveState();
        C.due("4 cords", Checks.load(k, "topic a;cluster;top a 1;pendant a 12 nibbled 1;sub 2 a 3;sub 3 a 4;"), 4);
        C.due("4 all", Checks.all(k), "a0001=a001?(a0003(a0004))|");
        C.due("4 topics", k.topicCount(), 1);
        C.thrown("4 no undo", k::undo, MISSING);
        C.thrown("4 no state", k::restoreState, MISSING);
        C.due("4 without cords", Checks.load(k, "topic zz;"), 0);
        C.due("4 no clusters", k.clusterCount(), 0);
        C.due("4 keywords as names", Checks.load(k, "topic topic;topic top;topic sub;cluster;top top 5;pendant topic 7;sub 2 sub 9999;"), 3);
        C.due("4 tokens without spaces", Checks.load(k, "\n topic abcdef;cluster\n;pendant abcdef 0012nibbled 4 ;sub2abcdef 5; "), 2);
        C.due("4 zeros before", Checks.all(k), "a????(a0005)|");
        // the latest cord of a depth may lie before other cords; a top cord may come last
        C.due("4 latest", Checks.load(k, "cluster;topic x;pendant x 1;sub 2 x 2;pendant x 3;sub 3 x 4;sub 2 x 5;sub 3 x 6;top x 7;cluster;top x 8;"), 8);
        C.due("4 order", Checks.all(k), "x0007=x0001(x0002(x0004))+x0003(x0005(x0006))|x0008=|");
        C.due("4 8 topics, 6 clusters", Checks.load(k, "topic a;topic b;topic c;topic d;topic e;topic f;topic g;topic h;" + Checks.repeat("cluster;", 6)), 0);
        C.due("4 the topics", k.topicCount(), 8);
        C.due("4 the clusters", k.clusterCount(), 6);
        String forty = "topic a;cluster;" + Checks.repeat("pendant a 1;", 40);
        C.due("4 40 cords", Checks.load(k, forty), 40);
        C.due("4 nibbled knots are lost", Checks.with("topic a;cluster;pendant a 1234 nibbled 2;").knownValue(0), 1200);
        // an error leaves all but the buffer and the error
        k = new KnotReader();
        k.saveState();
        k.dye(0, 1);
        Checks.written(k, 1);
        C.due("4 error", Checks.load(k, "topic a;cluster;pendant b 1;"), -1);
        C.due("4 output", k.outputByte(16), 63);
        C.due("4 undo", k.undo(), 0);
        C.due("4 saved", k.restoreState(), 8);
        C.due("4 as before", Checks.all(k), FIRST);
        C.due("4 the buffer", k.appendInput(0, 0, 0, 0, 0), 20);
    }

    private static void setupError(String text, int code, int offset) {
        KnotReader k = new KnotReader();
        C.due("4 " + text, Checks.load(k, text), -1);
        C.due("6 " + text, k.errorCode(), code);
        C.due("7 " + text, k.errorOffset(), offset);
    }

    private static void setupErrors() {
        String t = "topic a;cluster;";
        setupError("", KnotReader.INCOMPLETE, 0);
        setupError(" \n", KnotReader.INCOMPLETE, 2);
        setupError("cluster; ", KnotReader.INCOMPLETE, 9);
        setupError("topic", KnotReader.SYNTAX, 5);
        setupError("topic a ", KnotReader.SYNTAX, 8);
        setupError("topic a;cluster", KnotReader.SYNTAX, 15);
        setupError(";", KnotReader.SYNTAX, 0);
        setupError("topic a;;", KnotReader.SYNTAX, 8);
        setupError("topic A;", KnotReader.SYNTAX, 6);
        setupError("topic a\t;", KnotReader.SYNTAX, 7);
        setupError("topic ab!c;", KnotReader.SYNTAX, 8);
        setupError("topic abcdefg;", KnotReader.SYNTAX, 6);
        setupError("topic abcdefghi;", KnotReader.SYNTAX, 6);
        setupError("topic 5;", KnotReader.SYNTAX, 6);
        setupError("topicabcd;", KnotReader.SYNTAX, 0);
        setupError("tie a;", KnotReader.SYNTAX, 0);
        setupError("topic a;topic b;topic a;", KnotReader.DUPLICATE_NAME, 22);
        setupError("topic ab;topic a;topic ab x", KnotReader.DUPLICATE_NAME, 23);
        setupError("topic a;topic b;topic c;topic d;topic e;topic f;topic g;topic h;topic a;", KnotReader.TOO_MANY, 64);
        setupError("topic a;" + Checks.repeat("cluster;", 7), KnotReader.TOO_MANY, 56);
        setupError(t + Checks.repeat("pendant a 1;", 40) + "pendant a 1;", KnotReader.TOO_MANY, 496);
        setupError(t + Checks.repeat("pendant a 1;", 40) + " top a 1;", KnotReader.TOO_MANY, 497);
        setupError(t + Checks.repeat("pendant a 1;", 40) + "sub 9 a 1;", KnotReader.TOO_MANY, 496);
        setupError(t + Checks.repeat("pendant a 1;", 39) + "top a 1;top a 2;", KnotReader.NO_PLACE, 492);
        setupError("topic a;top a 1;", KnotReader.NO_PLACE, 8);
        setupError("topic a;pendant a 1;", KnotReader.NO_PLACE, 8);
        setupError("topic a;sub 2 a 1;", KnotReader.NO_PLACE, 8);
        setupError(t + "top a 1;top a 1;", KnotReader.NO_PLACE, 24);
        setupError(t + "top a 1;sub 2 a 1;", KnotReader.NO_PLACE, 28);
        setupError(t + "pendant a 1;sub 3 a 1;", KnotReader.NO_PLACE, 32);
        setupError(t + "pendant a 1;cluster;sub 2 a 1;", KnotReader.NO_PLACE, 40);
        setupError(t + "pendant a 1;sub 1 a 1;", KnotReader.OUT_OF_RANGE, 32);
        setupError(t + "sub 4 a 1;", KnotReader.OUT_OF_RANGE, 20);
        setupError(t + "sub x a 1;", KnotReader.SYNTAX, 20);
        setupError(t + "pendant b 1;", KnotReader.UNKNOWN_NAME, 24);
        setupError(t + "pendant abcdefg 1;", KnotReader.SYNTAX, 24);
        setupError(t + "pendant 7 1;", KnotReader.SYNTAX, 24);
        setupError(t + "pendant a 12345;", KnotReader.SYNTAX, 26);
        setupError(t + "pendant a a;", KnotReader.SYNTAX, 26);
        setupError(t + "pendant a 1 nibbled 0;", KnotReader.OUT_OF_RANGE, 36);
        setupError(t + "pendant a 1 nibbled 5;", KnotReader.OUT_OF_RANGE, 36);
        setupError(t + "pendant a 1 nibbled;", KnotReader.SYNTAX, 35);
        setupError(t + "pendant a 1 nibbled 1", KnotReader.SYNTAX, 37);
        setupError(t + "pendant a 1 nibble 1;", KnotReader.SYNTAX, 28);
        setupError(t + "pendant a 1 1;", KnotReader.SYNTAX, 28);
        setupError(t + "pendant a 1", KnotReader.SYNTAX, 27);
    }

    private static void scripts() {
        KnotReader k = new KnotReader();
        C.due("5 all kinds", Checks.run(k, "cluster;pendant 2 wool 12;sub 8 maize 7;knot 8 3 4;tie 2 wool;nibble 9 2;dye 8 maize;repair 2;cut 1;"), 9);
        C.due("5 after them", Checks.all(k), "m0137=w0090|w0060=w0023+m003?|m4019=w4012(m0007)|");
        C.due("5 one change", k.undo(), 0);
        C.due("5 before it", Checks.all(k), FIRST);
        C.due("5 ends at a throw", Checks.run(k, "dye 0 wool;cut 8;dye 1 wool;"), 1);
        C.due("5 up to there", Checks.all(k), "w0137=m0040(w0005(w0002))+w0090|w0060=w0023+m003?|");
        C.due("5 at once", Checks.run(k, "repair 0;cut 0;"), 0);
        C.due("5 a change all the same", k.undo(), 1);
        C.due("5 nothing changed", Checks.written(k, 0), "w0137=m0040(w0005(w0002))+w0090");
        C.due("5 empty", Checks.run(k, ""), 0);
        C.due("5 an empty change", k.undo(), 1);
        C.due("5 undone", k.undo(), 0);
        C.due("5 30 statements", Checks.run(k, Checks.repeat("dye 0 wool;", 30)), 30);
        C.due("5 seventh cluster", Checks.run(k, "cluster;cluster;cluster;cluster;cluster;cut 0;"), 4);
        C.due("5 six", k.clusterCount(), 6);
        C.due("5 numbers without spaces", Checks.run(k, " knot1 1\n5;"), 1);
        C.due("5 knot", k.knownValue(1), 50);
        C.due("5 no error", k.errorCode(), 0);
        // an error makes no change
        k = new KnotReader();
        C.due("5 error", Checks.run(k, "cut 0;cut 40;"), -1);
        C.thrown("5 no change", k::undo, MISSING);
        C.due("5 as it was", Checks.all(k), FIRST);
        C.due("5 emptied", k.appendInput(0, 0, 0, 0, 0), 20);
    }

    private static void scriptError(String text, int code, int offset) {
        KnotReader k = new KnotReader();
        C.due("5 " + text, Checks.run(k, text), -1);
        C.due("6 " + text, k.errorCode(), code);
        C.due("7 " + text, k.errorOffset(), offset);
        C.due("5 unchanged by " + text, Checks.all(k), FIRST);
    }

    private static void scriptErrors() {
        scriptError("topic a;", KnotReader.SYNTAX, 0);
        scriptError("top wool 1;", KnotReader.SYNTAX, 0);
        scriptError(" ;", KnotReader.SYNTAX, 1);
        scriptError("cluster", KnotReader.SYNTAX, 7);
        scriptError("cluster 1;", KnotReader.SYNTAX, 8);
        scriptError("pendant 6 wool 1;", KnotReader.OUT_OF_RANGE, 8);
        scriptError("pendant 5 cotton 1;", KnotReader.UNKNOWN_NAME, 10);
        scriptError("pendant 5 cottonn 1;", KnotReader.SYNTAX, 10);
        scriptError("pendant 5 wool 10000;", KnotReader.SYNTAX, 15);
        scriptError("pendant 5 wool 1 nibbled 1;", KnotReader.SYNTAX, 17);
        scriptError("sub 40 wool 1;", KnotReader.OUT_OF_RANGE, 4);
        scriptError("sub 39 wool x;", KnotReader.SYNTAX, 12);
        scriptError("cut 40;", KnotReader.OUT_OF_RANGE, 4);
        scriptError("cut ;", KnotReader.SYNTAX, 4);
        scriptError("tie 6 wool;", KnotReader.OUT_OF_RANGE, 4);
        scriptError("tie 5 w;", KnotReader.UNKNOWN_NAME, 6);
        scriptError("knot 40 0 0;", KnotReader.OUT_OF_RANGE, 5);
        scriptError("knot 39 4 0;", KnotReader.OUT_OF_RANGE, 8);
        scriptError("knot 39 3 10;", KnotReader.OUT_OF_RANGE, 10);
        scriptError("knot 39 3;", KnotReader.SYNTAX, 9);
        scriptError("nibble 40 1;", KnotReader.OUT_OF_RANGE, 7);
        scriptError("nibble 39 0;", KnotReader.OUT_OF_RANGE, 10);
        scriptError("nibble 39 5;", KnotReader.OUT_OF_RANGE, 10);
        scriptError("dye 40 wool;", KnotReader.OUT_OF_RANGE, 4);
        scriptError("dye 0 0;", KnotReader.SYNTAX, 6);
        scriptError("repair 6;", KnotReader.OUT_OF_RANGE, 7);
        scriptError("repair 5", KnotReader.SYNTAX, 8);
        scriptError("repairs 5;", KnotReader.SYNTAX, 0);
        scriptError(Checks.repeat("cut 0;", 30) + "cut 99;", KnotReader.TOO_MANY, 180);
        scriptError(Checks.repeat("cut 0;", 30) + "topic;", KnotReader.SYNTAX, 180);
        scriptError(Checks.repeat("cut 0;", 30) + ";", KnotReader.SYNTAX, 180);
        scriptError(Checks.repeat("cut 0;", 29) + "cut 99;", KnotReader.OUT_OF_RANGE, 178);
    }

    private static void reported() {
        KnotReader k = new KnotReader();
        Checks.load(k, "x");
        C.due("6 load", k.errorCode(), 1);
        C.due("7 load", k.errorOffset(), 0);
        Checks.run(k, "cut 7;");
        C.due("6 good script", k.errorCode(), 0);
        C.due("7 good script", k.errorOffset(), -1);
        Checks.run(k, "cut 77;");
        C.thrown("6 between", () -> k.cut(77), INDEX);
        k.undo();
        k.saveState();
        k.restoreState();
        C.due("6 stays", k.errorCode(), 2);
        C.due("7 stays", k.errorOffset(), 4);
        Checks.load(k, "topic a;");
        C.due("6 good setup", k.errorCode(), 0);
        C.due("7 good setup", k.errorOffset(), -1);
    }

    private static void counts() {
        KnotReader k = new KnotReader();
        C.due("8", k.topicCount(), 2);
        C.due("9", k.clusterCount(), 2);
        C.due("10", k.cordCount(), 8);
        C.due("11", k.knotCount(), 45);
        C.due("12", k.nibbledCount(), 1);
        C.due("13", k.matchingCount(), 1);
        k.setKnots(7, 3, 9);
        k.nibble(0, 2);
        C.due("11 later", k.knotCount(), 44);
        C.due("12 later", k.nibbledCount(), 2);
        C.due("13 later", k.matchingCount(), 0);
        Checks.load(k, "topic a;");
        C.due("8 none", k.topicCount(), 1);
        C.due("9 none", k.clusterCount(), 0);
        C.due("10 none", k.cordCount(), 0);
        C.due("11 none", k.knotCount(), 0);
        C.due("12 none", k.nibbledCount(), 0);
        C.due("13 none", k.matchingCount(), 0);
    }

    /** What was there once must not be counted any more. */
    private static void leftovers() {
        KnotReader k = Checks.with("topic a;topic b;cluster;top a 1;pendant a 1;cluster;top b 2;pendant b 1;sub 2 b 1;cluster;top b 0;pendant b 999 nibbled 1;");
        C.due("13 two", k.matchingCount(), 2);
        k.cut(6);
        k.cut(5);
        C.due("11 after cuts", k.knotCount(), 6);
        C.due("12 after cuts", k.nibbledCount(), 0);
        C.due("36 after cuts", k.cordsOfTopic(1), 3);
        C.due("37 after cuts", k.sumOfTopic(1), 2);
        C.due("38 after cuts", k.mostUsedTopic(), 1);
        C.due("39 after cuts", k.greatestCord(), 2);
        C.due("40 after cuts", k.averageValue(), 1.2);
        C.due("41 after cuts", k.nibbledPart(), 0.0f);
        C.due("42 after cuts", k.isConsistent(), true);
        Checks.load(k, "topic c;cluster;top c 1;pendant c 1;");
        C.due("13 after loading", k.matchingCount(), 1);
        C.due("42 after loading", k.isConsistent(), true);
        C.due("43 after loading", k.addCluster(), 1);
        C.due("28 after loading", k.cordsIn(1), 0);
        C.thrown("14 after loading", () -> k.topicByte(1, 0), INDEX);
    }

    private static void topicBytes() {
        KnotReader k = Checks.with("topic a;topic zyxwvu;");
        C.due("14 only", k.topicByte(0, 0), 97);
        C.due("14 behind", k.topicByte(0, 1), -1);
        String name = "zyxwvu";
        for (int i = 0; i < 6; i++) {
            C.due("14 letter", k.topicByte(1, i), (int) name.charAt(i));
        }
        C.due("14 seventh", k.topicByte(1, 6), -1);
        for (int wrong : WRONG) {
            C.due("14 no letter", k.topicByte(1, wrong), -1);
            C.thrown("14 no topic", () -> k.topicByte(wrong, 0), INDEX);
        }
        C.thrown("14 topic 2", () -> k.topicByte(2, -1), INDEX);
    }

    private static void cordQueries() {
        KnotReader k = new KnotReader();
        int[] clusters = {0, 0, 0, 0, 0, 1, 1, 1};
        int[] depths = {0, 1, 2, 3, 1, 0, 1, 1};
        int[] parents = {-1, -1, 1, 2, -1, -1, -1, -1};
        int[] topics = {0, 0, 1, 1, 1, 1, 1, 0};
        int[] subs = {0, 1, 1, 0, 0, 0, 0, 0};
        int[] values = {137, 40, 5, 2, 90, 60, 23, 30};
        for (int i = 0; i < 8; i++) {
            C.due("15 of " + i, k.clusterOf(i), clusters[i]);
            C.due("16 of " + i, k.depthOf(i), depths[i]);
            C.due("17 of " + i, k.parentOf(i), parents[i]);
            C.due("18 of " + i, k.topicOf(i), topics[i]);
            C.due("19 of " + i, k.subsidiariesOf(i), subs[i]);
            C.due("20 of " + i, k.nibbledPlaces(i), i == 7 ? 1 : 0);
            C.due("21 of " + i, k.knownValue(i), values[i]);
        }
        k.addCluster();
        k.addCluster();
        k.addPendant(3, 1, 1);
        C.due("15 behind an empty cluster", k.clusterOf(8), 3);
        k.addSubsidiary(1, 0, 3);
        k.addSubsidiary(4, 0, 3);
        C.due("17 the second", k.parentOf(4), 1);
        C.due("17 below it", k.parentOf(5), 4);
        C.due("19 two", k.subsidiariesOf(1), 2);
        C.due("24 ones", k.knotsAt(0, 0), 7);
        C.due("24 tens", k.knotsAt(0, 1), 3);
        C.due("24 hundreds", k.knotsAt(0, 2), 1);
        C.due("24 thousands", k.knotsAt(0, 3), 0);
        C.due("24 nibbled", k.knotsAt(9, 0), -1);
        C.due("24 not nibbled", k.knotsAt(9, 1), 3);
        C.thrown("24 place 4", () -> k.knotsAt(0, 4), ARGUMENT);
        C.thrown("24 place -1", () -> k.knotsAt(0, -1), ARGUMENT);
        C.thrown("24 cord first", () -> k.knotsAt(11, 4), INDEX);
        k.nibble(0, 4);
        C.due("20 four", k.nibbledPlaces(0), 4);
        C.due("21 all lost", k.knownValue(0), 0);
    }

    private static void totals() {
        KnotReader k = new KnotReader();
        C.due("22 top", k.lowestTotal(0), 137);
        C.due("23 top", k.highestTotal(0), 137);
        C.due("26 top", k.totalOf(0), 137);
        C.due("26 three", k.totalOf(1), 47);
        C.due("26 two", k.totalOf(2), 7);
        k.nibble(3, 3);
        C.due("22 below", k.lowestTotal(1), 45);
        C.due("23 below", k.highestTotal(1), 1044);
        C.due("25 below", k.isComplete(1), false);
        C.due("25 beside", k.isComplete(4), true);
        C.due("25 top", k.isComplete(0), true);
        C.thrown("26 below", () -> k.totalOf(1), MISSING);
        C.due("26 beside", k.totalOf(4), 90);
        C.thrown("26 no cord", () -> k.totalOf(8), INDEX);
        k.nibble(2, 4);
        C.due("22 both", k.lowestTotal(1), 40);
        C.due("23 both", k.highestTotal(1), 40 + 9999 + 999);
        C.due("25 itself", k.isComplete(7), false);
    }

    private static void clusterQueries() {
        KnotReader k = new KnotReader();
        k.addCluster();
        k.cut(5);
        C.due("27", k.pendantsIn(0), 2);
        C.due("28", k.cordsIn(0), 5);
        C.due("29", k.topOf(0), 0);
        C.due("30", k.firstPendant(0), 1);
        C.due("27 without top", k.pendantsIn(1), 2);
        C.due("28 without top", k.cordsIn(1), 2);
        C.due("29 without top", k.topOf(1), -1);
        C.due("30 without top", k.firstPendant(1), 5);
        C.due("27 empty", k.pendantsIn(2), 0);
        C.due("28 empty", k.cordsIn(2), 0);
        C.due("29 empty", k.topOf(2), -1);
        C.due("30 empty", k.firstPendant(2), -1);
        C.due("33 empty", k.sumOf(2), 0);
        KnotReader t = Checks.with("topic a;cluster;top a 5;cluster;pendant a 3;");
        C.due("27 only a top", t.pendantsIn(0), 0);
        C.due("30 only a top", t.firstPendant(0), -1);
        C.due("33 only a top", t.sumOf(0), 0);
        C.due("31 only a top", t.stateOf(0), KnotReader.DIFFERING);
    }

    private static void statesAndGuesses() {
        KnotReader k = new KnotReader();
        C.due("31 matching", k.stateOf(0), KnotReader.MATCHING);
        C.due("31 unclear", k.stateOf(1), KnotReader.UNCLEAR);
        C.due("33", k.sumOf(0), 137);
        C.thrown("33 unclear", () -> k.sumOf(1), MISSING);
        C.due("34", k.guessIn(1), 37);
        C.thrown("34 nothing", () -> k.guessIn(0), MISSING);
        C.due("35", k.nibbledCord(1), 7);
        C.due("35 none", k.nibbledCord(0), -1);
        C.due("32 nothing", k.guessObstacle(0), KnotReader.NOTHING_NIBBLED);
        k.setKnots(1, 0, 1);
        C.due("31 differing", k.stateOf(0), KnotReader.DIFFERING);
        k.nibble(0, 1);
        C.due("31 nibbled top", k.stateOf(0), KnotReader.UNCLEAR);
        C.due("33 nibbled top", k.sumOf(0), 138);
        C.due("34 of the top", k.guessIn(0), 138);
        C.due("35 the top", k.nibbledCord(0), 0);
        k.nibble(6, 2);
        C.due("32 several", k.guessObstacle(1), KnotReader.SEVERAL_NIBBLED);
        C.due("35 several", k.nibbledCord(1), -1);
        k.cut(5);
        C.due("31 no top", k.stateOf(1), KnotReader.NO_TOP);
        C.due("32 no top", k.guessObstacle(1), KnotReader.TOP_MISSING);
        k.cut(6);
        C.due("35 without a top", k.nibbledCord(1), 5);
        C.thrown("34 no top", () -> k.guessIn(1), MISSING);
        guess("top a 100;pendant a 60;pendant a 30 nibbled 1;", KnotReader.IMPOSSIBLE, 0);
        guess("top a 99;pendant a 60;pendant a 30 nibbled 1;", KnotReader.CAN_GUESS, 39);
        guess("top a 90;pendant a 60;pendant a 30 nibbled 1;", KnotReader.CAN_GUESS, 30);
        guess("top a 89;pendant a 60;pendant a 30 nibbled 1;", KnotReader.IMPOSSIBLE, 0);
        guess("top a 5;pendant a 5;pendant a 30 nibbled 4;", KnotReader.CAN_GUESS, 0);
        guess("top a 4;pendant a 5;pendant a 0 nibbled 4;", KnotReader.IMPOSSIBLE, 0);
        guess("top a 4;pendant a 9;pendant a 0 nibbled 1;", KnotReader.IMPOSSIBLE, 0);
        guess("top a 0 nibbled 4;pendant a 9999;pendant a 0;", KnotReader.CAN_GUESS, 9999);
        guess("top a 0 nibbled 4;pendant a 9999;sub 2 a 1;", KnotReader.IMPOSSIBLE, 0);
        guess("top a 9000 nibbled 3;pendant a 9999;", KnotReader.CAN_GUESS, 9999);
        guess("top a 9999;pendant a 0;sub 2 a 1;sub 3 a 0 nibbled 4;", KnotReader.CAN_GUESS, 9998);
        guess("top a 0 nibbled 1;", KnotReader.CAN_GUESS, 0);
        guess("top a 10 nibbled 1;", KnotReader.IMPOSSIBLE, 0);
    }

    private static void guess(String setup, int obstacle, int value) {
        KnotReader k = Checks.with("topic a;cluster;" + setup);
        C.due("32 " + setup, k.guessObstacle(0), obstacle);
        C.due("34 " + setup, Checks.answer(() -> k.guessIn(0)), obstacle == 0 ? value : MISSING);
        C.due("51 " + setup, Checks.answer(() -> k.repair(0)), obstacle == 0 ? value : STATE);
        C.due("31 " + setup, k.stateOf(0), obstacle == 0 ? KnotReader.MATCHING : KnotReader.UNCLEAR);
        C.due("42 " + setup, k.isConsistent(), true);
    }

    private static void topicQueries() {
        KnotReader k = new KnotReader();
        C.due("36 maize", k.cordsOfTopic(0), 3);
        C.due("36 wool", k.cordsOfTopic(1), 5);
        C.due("37 maize", k.sumOfTopic(0), 70);
        C.due("37 wool", k.sumOfTopic(1), 120);
        C.due("38", k.mostUsedTopic(), 1);
        k.dye(4, 0);
        C.due("38 as many", k.mostUsedTopic(), 0);
        C.due("39", k.greatestCord(), 0);
        k.nibble(0, 3);
        C.due("39 known values", k.greatestCord(), 4);
        KnotReader t = Checks.with("topic a;topic b;topic c;cluster;pendant c 5;pendant c 7;pendant b 7;");
        C.due("36 none", t.cordsOfTopic(0), 0);
        C.due("37 none", t.sumOfTopic(0), 0);
        C.due("38 last", t.mostUsedTopic(), 2);
        C.due("39 lowest index", t.greatestCord(), 1);
        KnotReader n = Checks.with("topic a;topic b;cluster;");
        C.due("38 no cord", n.mostUsedTopic(), 0);
        C.due("39 no cord", n.greatestCord(), -1);
        KnotReader z = Checks.with("topic a;cluster;pendant a 0;pendant a 0;");
        C.due("39 zeros", z.greatestCord(), 0);
    }

    private static void averages() {
        KnotReader k = new KnotReader();
        C.due("40", k.averageValue(), 48.375);
        C.due("41", k.nibbledPart(), 0.125f);
        k.cut(6);
        C.due("40 of 7", k.averageValue(), 364.0 / 7.0);
        C.due("41 of 7", k.nibbledPart(), 1.0f / 7.0f);
        Checks.load(k, "topic a;");
        C.due("40 no cord", k.averageValue(), 0.0);
        C.due("41 no cord", k.nibbledPart(), 0.0f);
        C.due("42 no cord", k.isConsistent(), true);
    }

    /** What is due for cords, clusters and topics that are not there. */
    private static void noSuchThing() {
        KnotReader k = new KnotReader();
        for (int x : new int[] {-1, 8, Integer.MIN_VALUE, Integer.MAX_VALUE}) {
            C.thrown("15", () -> k.clusterOf(x), INDEX);
            C.thrown("16", () -> k.depthOf(x), INDEX);
            C.thrown("17", () -> k.parentOf(x), INDEX);
            C.thrown("18", () -> k.topicOf(x), INDEX);
            C.thrown("19", () -> k.subsidiariesOf(x), INDEX);
            C.thrown("20", () -> k.nibbledPlaces(x), INDEX);
            C.thrown("21", () -> k.knownValue(x), INDEX);
            C.thrown("22", () -> k.lowestTotal(x), INDEX);
            C.thrown("23", () -> k.highestTotal(x), INDEX);
            C.thrown("24", () -> k.knotsAt(x, 9), INDEX);
            C.thrown("25", () -> k.isComplete(x), INDEX);
            C.thrown("26", () -> k.totalOf(x), INDEX);
            C.thrown("45", () -> k.addSubsidiary(x, 0, 10000), INDEX);
            C.thrown("46", () -> k.cut(x), INDEX);
            C.thrown("48", () -> k.setKnots(x, 9, 10), INDEX);
            C.thrown("49", () -> k.nibble(x, 0), INDEX);
            C.thrown("50", () -> k.dye(x, 0), INDEX);
        }
        for (int x : new int[] {-1, 2, Integer.MIN_VALUE, Integer.MAX_VALUE}) {
            C.thrown("27", () -> k.pendantsIn(x), INDEX);
            C.thrown("28", () -> k.cordsIn(x), INDEX);
            C.thrown("29", () -> k.topOf(x), INDEX);
            C.thrown("30", () -> k.firstPendant(x), INDEX);
            C.thrown("31", () -> k.stateOf(x), INDEX);
            C.thrown("32", () -> k.guessObstacle(x), INDEX);
            C.thrown("33", () -> k.sumOf(x), INDEX);
            C.thrown("34", () -> k.guessIn(x), INDEX);
            C.thrown("35", () -> k.nibbledCord(x), INDEX);
            C.thrown("36", () -> k.cordsOfTopic(x), INDEX);
            C.thrown("37", () -> k.sumOfTopic(x), INDEX);
            C.thrown("44 cluster", () -> k.addPendant(x, 0, 0), INDEX);
            C.thrown("44 topic", () -> k.addPendant(0, x, -1), INDEX);
            C.thrown("45 topic", () -> k.addSubsidiary(0, x, -1), INDEX);
            C.thrown("47 cluster", () -> k.tieTop(x, 0), INDEX);
            C.thrown("47 topic", () -> k.tieTop(0, x), INDEX);
            C.thrown("50 topic", () -> k.dye(0, x), INDEX);
            C.thrown("51", () -> k.repair(x), INDEX);
            C.thrown("53", () -> k.writeCluster(x), INDEX);
        }
        C.thrown("52 no change by throwing", k::undo, MISSING);
        C.due("7 unchanged", Checks.all(k), FIRST);
    }

    private static void adding() {
        KnotReader k = new KnotReader();
        for (int i = 2; i < 6; i++) {
            C.due("43", k.addCluster(), i);
        }
        C.thrown("43 seventh", k::addCluster, STATE);
        C.due("44", k.addPendant(0, 1, 9999), 5);
        C.due("44 in the last", k.addPendant(5, 0, 0), 9);
        C.thrown("44 value", () -> k.addPendant(0, 0, 10000), ARGUMENT);
        C.thrown("44 negative", () -> k.addPendant(0, 0, -1), ARGUMENT);
        C.due("45", k.addSubsidiary(1, 0, 8), 4);
        C.due("45 depth 2", k.addSubsidiary(2, 0, 9), 4);
        C.thrown("45 value", () -> k.addSubsidiary(0, 0, 10000), ARGUMENT);
        C.thrown("45 top", () -> k.addSubsidiary(0, 0, 1), STATE);
        C.thrown("45 depth 3", () -> k.addSubsidiary(4, 0, 1), STATE);
        C.due("44, 45", Checks.written(k, 0), "m0137=m0040(w0005(w0002,m0009),m0008)+w0090+w9999");
        for (int i = k.cordCount(); i < 40; i++) {
            C.due("44 up to 40", k.addPendant(5, 1, i), i);
        }
        C.thrown("44 41st", () -> k.addPendant(5, 1, 1), STATE);
        C.thrown("44 41st value", () -> k.addPendant(5, 1, -1), ARGUMENT);
        C.thrown("45 41st", () -> k.addSubsidiary(1, 1, 1), STATE);
        C.thrown("47 41st", () -> k.tieTop(5, 1), STATE);
        C.due("42", k.isConsistent(), true);
        k.undo();
        C.due("44 40th", k.addPendant(0, 0, 1), 8);
        C.thrown("45 41st below a top", () -> k.addSubsidiary(0, 0, 1), STATE);
    }

    private static void cutting() {
        KnotReader k = new KnotReader();
        C.due("46 leaf", k.cut(3), 1);
        C.due("46 branch", k.cut(1), 2);
        C.due("46 the rest", Checks.all(k), "m0137=w0090|w0060=w0023+m003?|");
        C.due("46 top", k.cut(0), 1);
        C.due("46 last of a cluster", k.cut(0), 1);
        C.due("46 cluster stays", Checks.all(k), "|w0060=w0023+m003?|");
        C.due("46 the end", k.cut(2), 1);
        C.due("46 left", Checks.all(k), "|w0060=w0023|");
        C.due("15 after cuts", k.clusterOf(0), 1);
    }

    private static void tying() {
        KnotReader k = new KnotReader();
        C.thrown("47 has one", () -> k.tieTop(0, 0), STATE);
        k.cut(0);
        C.due("47", k.tieTop(0, 1), 137);
        C.due("47 written", Checks.written(k, 0), "w0137=m0040(w0005(w0002))+w0090");
        k.cut(5);
        C.thrown("47 nibbled", () -> k.tieTop(1, 0), STATE);
        k.addCluster();
        C.thrown("47 no pendant", () -> k.tieTop(2, 0), STATE);
        k.addPendant(2, 0, 9999);
        k.addSubsidiary(7, 0, 1);
        C.thrown("47 10000", () -> k.tieTop(2, 0), STATE);
        k.setKnots(8, 0, 0);
        C.due("47 9999", k.tieTop(2, 0), 9999);
        C.due("47 matches", k.stateOf(2), KnotReader.MATCHING);
    }

    private static void knotsAndNibbling() {
        KnotReader k = new KnotReader();
        C.due("48", k.setKnots(0, 1, 9), 3);
        C.due("48 thousands", k.setKnots(0, 3, 5), 0);
        C.due("48 value", k.knownValue(0), 5197);
        C.due("48 fewer", k.setKnots(0, 0, 0), 7);
        C.due("48 then", k.knownValue(0), 5190);
        C.thrown("48 nibbled", () -> k.setKnots(7, 0, 0), STATE);
        C.due("48 above", k.setKnots(7, 1, 0), 3);
        C.thrown("48 place", () -> k.setKnots(7, 4, 0), ARGUMENT);
        C.thrown("48 place -1", () -> k.setKnots(7, -1, 0), ARGUMENT);
        C.thrown("48 knots", () -> k.setKnots(7, 0, 10), ARGUMENT);
        C.thrown("48 knots -1", () -> k.setKnots(7, 0, -1), ARGUMENT);
        C.due("49", k.nibble(0, 3), 10);
        C.due("49 known", k.knownValue(0), 5000);
        C.thrown("49 fewer", () -> k.nibble(0, 2), STATE);
        C.due("49 as many", k.nibble(0, 3), 0);
        C.due("49 all", k.nibble(0, 4), 5);
        C.thrown("49 none", () -> k.nibble(4, 0), ARGUMENT);
        C.thrown("49 five", () -> k.nibble(0, 5), ARGUMENT);
        C.due("49 changes", k.undo(), 6);
    }

    private static void dyeing() {
        KnotReader k = new KnotReader();
        C.due("50", k.dye(0, 1), 0);
        C.due("50 again", k.dye(0, 1), 1);
        C.due("50 written", Checks.written(k, 0), "w0137=m0040(w0005(w0002))+w0090");
        C.due("50 two changes", k.undo(), 1);
    }

    private static void repairing() {
        KnotReader k = new KnotReader();
        C.due("51", k.repair(1), 37);
        C.due("51 places", k.nibbledPlaces(7), 0);
        C.due("51 value", k.knownValue(7), 37);
        C.thrown("51 again", () -> k.repair(1), STATE);
        C.due("51 one change", k.undo(), 0);
        C.due("51 undone", Checks.all(k), FIRST);
        k.nibble(0, 2);
        C.due("51 top", k.repair(0), 137);
        C.due("51 matching", k.stateOf(0), KnotReader.MATCHING);
    }

    private static void undoing() {
        KnotReader k = new KnotReader();
        Checks.written(k, 1);
        Checks.run(k, "x");
        k.saveState();
        Checks.feed(k, "cut 0;");
        for (int i = 0; i < 10; i++) {
            k.setKnots(0, 0, i);
        }
        for (int i = 7; i >= 0; i--) {
            C.due("52 left", k.undo(), i);
            C.due("52 knots", k.knotsAt(0, 0), i + 1);
        }
        C.thrown("52 no more", k::undo, MISSING);
        C.due("52 output", k.outputByte(16), 63);
        C.due("52 error", k.errorCode(), 1);
        C.due("52 offset", k.errorOffset(), 0);
        C.due("52 input", k.runScript(), 1);
        C.due("52 script", k.cordCount(), 7);
        C.due("52 saved", k.restoreState(), 8);
        C.thrown("52 after restoring", k::undo, MISSING);
        for (int i = 0; i < 5; i++) {
            k.setKnots(0, 0, i);
        }
        C.due("52 first", k.undo(), 4);
        C.due("52 second", k.undo(), 3);
        for (int i = 0; i < 6; i++) {
            k.addCluster();
            if (i >= 3) {
                k.undo();
                k.dye(1, 1);
            }
        }
        C.due("52 eight at most", k.undo(), 7);
        for (int i = 6; i >= 0; i--) {
            C.due("52 all others", k.undo(), i);
        }
        C.due("52 the oldest", k.clusterCount(), 2);
    }

    private static void writing() {
        KnotReader k = new KnotReader();
        C.due("53 length", k.writeCluster(0), 31);
        C.due("54 behind", k.outputByte(31), -1);
        C.due("54 last", k.outputByte(30), 48);
        C.due("54 negative", k.outputByte(-1), -1);
        C.due("54 greatest", k.outputByte(Integer.MAX_VALUE), -1);
        C.due("53 shorter", k.writeCluster(1), 17);
        C.due("54 replaced", k.outputByte(17), -1);
        C.thrown("53 no cluster", () -> k.writeCluster(2), INDEX);
        C.due("53 as it was", k.outputByte(16), 63);
        k.addCluster();
        C.due("53 empty", k.writeCluster(2), 0);
        C.due("54 empty", k.outputByte(0), -1);
        KnotReader t = Checks.with("topic abc;topic d;cluster;top d 9876;cluster;pendant d 1;sub 2 d 2;sub 3 abc 3;sub 3 d 4;sub 2 d 5;sub 3 d 6789 nibbled 2;pendant abc 7 nibbled 4;sub 2 d 8;");
        C.due("53 top alone", Checks.written(t, 0), "d9876=");
        C.due("53 many", Checks.written(t, 1), "d0001(d0002(a0003,d0004),d0005(d67??))+a????(d0008)");
        // the longest output
        KnotReader g = Checks.with("topic a;cluster;top a 1;" + Checks.repeat("pendant a 1;sub 2 a 1;sub 3 a 1;", 13));
        C.due("53 longest", g.writeCluster(0), 40 * 5 + 1 + 12 + 13 * 4);
        KnotReader h = Checks.with("topic a;cluster;" + Checks.repeat("pendant a 1;", 40));
        C.due("53 40 pendants", h.writeCluster(0), 239);
    }

    private static void saving() {
        KnotReader k = new KnotReader();
        Checks.written(k, 0);
        C.due("55", k.saveState(), 8);
        C.thrown("55 no change", k::undo, MISSING);
        k.addCluster();
        k.cut(1);
        Checks.run(k, "tie");
        C.due("56", k.restoreState(), 8);
        C.due("56 output", k.outputByte(30), 48);
        C.due("56 error", k.errorOffset(), 3);
        C.due("56 all", Checks.all(k), FIRST);
        C.thrown("56 no undo", k::undo, MISSING);
        k.cut(1);
        C.due("56 remains saved", k.restoreState(), 8);
        k.cut(1);
        C.due("55 later", k.saveState(), 5);
        C.due("55 undo stays", k.undo(), 0);
        C.due("56 the later", k.restoreState(), 5);
        C.due("56 clusters", Checks.all(k), "m0137=w0090|w0060=w0023+m003?|");
        Checks.load(k, "topic b;");
        C.thrown("56 after loading", k::restoreState, MISSING);
    }
}

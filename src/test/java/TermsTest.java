import java.util.NoSuchElementException;

/** The sentences of "What it is" and "Terms", each with its boundary cases. */
public final class TermsTest {
    private static final Sentences S = new Sentences("What it is", "Promise 1:");
    private static final Class<?> INDEX = IndexOutOfBoundsException.class;
    private static final Class<?> ARGUMENT = IllegalArgumentException.class;
    private static final Class<?> STATE = IllegalStateException.class;
    private static final Class<?> MISSING = NoSuchElementException.class;
    private static final String EIGHT = "topic a;topic b;topic c;topic d;topic e;topic f;topic g;topic h;";
    private static final String C = "topic a;cluster;";

    public static void main(String[] args) {
        S.section("What it is");
        whatItIs();
        S.section("Terms");
        topics();
        clusters();
        depths();
        order();
        knots();
        totals();
        states();
        guessing();
        tokens();
        setupStatements();
        scriptStatements();
        parsing();
        syntax();
        otherCodes();
        noPlace();
        tooMany();
        changes();
        throwing();
        constants();
        S.close("TermsTest");
    }

    private static KnotReader with(String setup) {
        return Checks.with(setup);
    }

    /** What loading a text answers and reports: the cords, or the code and the offset. */
    private static String load(String text) {
        KnotReader k = new KnotReader();
        return told(Checks.load(k, text), k);
    }

    /** The same for running a text as a script, on an object that a setup made. */
    private static String run(String setup, String text) {
        KnotReader k = with(setup);
        return told(Checks.run(k, text), k);
    }

    private static String run(String text) {
        KnotReader k = new KnotReader();
        return told(Checks.run(k, text), k);
    }

    private static String told(int answer, KnotReader k) {
        return answer != KnotReader.NONE ? answer + "" : "error " + k.errorCode() + " at " + k.errorOffset();
    }

    private static String times(int times, String text) {
        return text.repeat(times);
    }

    private static void whatItIs() {
        S.says("A reader of knotted cords: clusters of pendant cords with subsidiary cords, knots by place value, colours by topic, top cords that hold the sums of their clusters, and ends that were nibbled by a mouse.");
        S.due("m0137=m0040(w0005(w0002))+w0090|w0060=w0023+m003?|", () -> Checks.all(new KnotReader()));
        S.says("An object is used for at most 512 calls after it has been made; what later calls answer is free.");
        KnotReader k = new KnotReader();
        for (int call = 1; call <= 510; call += 2) {
            k.setKnots(0, 0, call % 10);
            k.outputByte(0);
        }
        S.due(7, k::undo);
        S.due(7, () -> k.knotsAt(0, 0));
    }

    private static void topics() {
        S.says("There are 1 to 8 topics, indexed from 0 in the order of the setup.");
        S.due("error 7 at 0", () -> load(""));
        S.due("0", () -> load("topic a;"));
        S.due(1, () -> with("topic a;").topicCount());
        S.due("0", () -> load(EIGHT));
        S.due(8, () -> with(EIGHT).topicCount());
        S.due("a b c d e f g h ", () -> Witness.topics(with(EIGHT)));
        S.due("z y x ", () -> Witness.topics(with("topic z;cluster;topic y;pendant y 1;topic x;")));
        S.due("error 6 at 64", () -> load(EIGHT + "topic i;"));
        S.due(104, () -> with(EIGHT).topicByte(7, 0));
        S.due(INDEX, () -> with(EIGHT).topicByte(8, 0));

        S.says("A topic has a name of 1 to 6 lowercase letters; all names are different.");
        S.due("error 1 at 6", () -> load("topic ;"));
        S.due("a ", () -> Witness.topics(with("topic a;")));
        S.due("abcdef ", () -> Witness.topics(with("topic abcdef;")));
        S.due("zzzzzz ", () -> Witness.topics(with("topic zzzzzz;")));
        S.due("error 1 at 6", () -> load("topic abcdefg;"));
        S.due("error 1 at 6", () -> load("topic Abc;"));
        S.due("error 1 at 9", () -> load("topic abcD;"));
        S.due("error 1 at 6", () -> load("topic 1;"));
        S.due("ab a abc aab ba ", () -> Witness.topics(with("topic ab;topic a;topic abc;topic aab;topic ba;")));
        S.due("abcdef abcdeg bbcdef ", () -> Witness.topics(with("topic abcdef;topic abcdeg;topic bbcdef;")));
        S.due("error 3 at 31", () -> load("topic ab;topic a;topic b;topic ab;"));

        S.says("Each topic is shown by a colour of its own, so that the colour of a cord tells its topic.");
        KnotReader k = with(EIGHT + "cluster;pendant a 1;pendant h 1;pendant b 1;");
        for (int topic = 0; topic < 8; topic++) {
            int dyed = topic;
            S.due(dyed == 0 ? 0 : dyed - 1, () -> k.dye(0, dyed));
            S.due(dyed, () -> k.topicOf(0));
        }
        S.due(7, () -> k.topicOf(1));
        S.due(1, () -> k.topicOf(2));
        S.due(1, () -> with("topic wool;topic wolf;cluster;pendant wolf 1;").topicOf(0));
    }

    private static void clusters() {
        S.says("There are at most 6 clusters, indexed from 0.");
        KnotReader six = with("topic a;" + times(6, "cluster;pendant a 1;"));
        S.due(6, six::clusterCount);
        S.due(0, () -> six.clusterOf(0));
        S.due(5, () -> six.clusterOf(5));
        S.due(1, () -> six.cordsIn(5));
        S.due(INDEX, () -> six.cordsIn(6));
        S.due(INDEX, () -> six.cordsIn(-1));
        S.due(STATE, six::addCluster);
        S.due(0, () -> Checks.run(six, "cluster;"));
        S.due(6, six::clusterCount);
        S.due("error 6 at 56", () -> load("topic a;" + times(7, "cluster;")));
        KnotReader none = with("topic a;");
        S.due(0, none::clusterCount);
        S.due(INDEX, () -> none.cordsIn(0));
        S.due(0, none::addCluster);
        S.due(0, () -> none.cordsIn(0));

        S.says("A cluster has any number of pendants, in an order, and can have a top cord.");
        S.due("|", () -> Checks.all(with("topic a;cluster;")));
        S.due("a0001=|", () -> Checks.all(with(C + "top a 1;")));
        S.due("a0003+a0001+a0002|", () -> Checks.all(with(C + "pendant a 3;pendant a 1;pendant a 2;")));
        S.due("a0009=a0003+a0001|", () -> Checks.all(with(C + "pendant a 3;pendant a 1;top a 9;")));
        S.due(40, () -> with(C + times(40, "pendant a 1;")).pendantsIn(0));
        S.due(39, () -> with(C + times(39, "pendant a 1;") + "top a 1;").pendantsIn(0));

        S.says("All cords together are at most 40.");
        String forty = "topic a;" + times(5, "cluster;top a 1;" + times(7, "pendant a 1;"));
        S.due(40, () -> with(forty).cordCount());
        S.due("error 6 at 508", () -> load(forty + "pendant a 1;"));
        S.due(STATE, () -> with(forty).addPendant(0, 0, 1));
        S.due(STATE, () -> with(forty).addSubsidiary(39, 0, 1));
        S.due(STATE, () -> with("topic a;cluster;" + times(40, "pendant a 1;")).tieTop(0, 0));
        S.due("0", () -> run(forty, "pendant 0 a 1;"));
        S.due("2", () -> run(forty, "cut 39;pendant 0 a 1;pendant 0 a 1;"));
    }

    private static void depths() {
        String all = C + "top a 9;pendant a 1;sub 2 a 2;sub 3 a 3;pendant a 4;";
        S.says("A pendant has the depth 1.");
        S.due(1, () -> with(all).depthOf(1));
        S.due(1, () -> with(all).depthOf(4));
        S.due(1, () -> with(C + "pendant a 1;").depthOf(0));

        S.says("A cord of depth 1 or 2 can have subsidiaries, in an order; they have a depth that is greater by 1.");
        S.due(2, () -> with(all).depthOf(2));
        S.due(3, () -> with(all).depthOf(3));
        S.due(4, () -> with(all).addSubsidiary(1, 0, 7));
        S.due(4, () -> with(all).addSubsidiary(2, 0, 7));
        S.due(STATE, () -> with(all).addSubsidiary(3, 0, 7));
        S.due(STATE, () -> with(all).addSubsidiary(0, 0, 7));
        KnotReader k = with(C + "pendant a 1;sub 2 a 9;sub 2 a 7;sub 3 a 8;sub 3 a 6;");
        S.due("a0001(a0009,a0007(a0008,a0006))|", () -> Checks.all(k));
        k.addSubsidiary(0, 0, 5);
        k.addSubsidiary(5, 0, 4);
        S.due("a0001(a0009,a0007(a0008,a0006),a0005(a0004))|", () -> Checks.all(k));
        S.due(3, () -> k.depthOf(6));

        S.says("A top cord has the depth 0 and no subsidiaries.");
        S.due(0, () -> with(all).depthOf(0));
        S.due(0, () -> with(all).subsidiariesOf(0));
        S.due(-1, () -> with(all).parentOf(1));
        S.due(9, () -> with(all).totalOf(0));
        S.due("error 5 at 28", () -> load(C + "top a 9;sub 2 a 1;"));
        S.due(0, () -> tied().depthOf(0));
    }

    private static KnotReader tied() {
        KnotReader k = with(C + "pendant a 1;sub 2 a 2;");
        k.tieTop(0, 0);
        return k;
    }

    private static void order() {
        S.says("The reading order goes through the clusters by ascending index; in each cluster, the top cord is first, and then the pendants follow in their order.");
        KnotReader k = with("topic a;cluster;pendant a 11;pendant a 12;top a 10;cluster;cluster;pendant a 31;top a 30;pendant a 32;");
        int[] values = {10, 11, 12, 30, 31, 32};
        int[] clusters = {0, 0, 0, 2, 2, 2};
        for (int i = 0; i < 6; i++) {
            int cord = i;
            S.due(values[i], () -> k.knownValue(cord));
            S.due(clusters[i], () -> k.clusterOf(cord));
            S.due(cord % 3 == 0 ? 0 : 1, () -> k.depthOf(cord));
        }
        S.due(3, () -> k.addPendant(1, 0, 20));
        S.due(20, () -> k.knownValue(3));
        S.due(30, () -> k.knownValue(4));
        S.due(3, () -> k.addPendant(0, 0, 13));
        S.due(2, () -> k.clusterOf(5));

        S.says("A cord is followed by its subsidiaries, each of them with its own subsidiaries, before the next cord.");
        KnotReader s = with(C + "pendant a 1;sub 2 a 2;sub 2 a 3;sub 3 a 4;sub 3 a 5;sub 2 a 6;sub 3 a 7;pendant a 8;sub 2 a 9;cluster;pendant a 10;");
        int[] parents = {-1, 0, 0, 2, 2, 0, 5, -1, 7, -1};
        for (int i = 0; i < 10; i++) {
            int cord = i;
            S.due(i + 1, () -> s.knownValue(cord));
            S.due(parents[i], () -> s.parentOf(cord));
        }

        S.says("The index of a cord is its place in the reading order, from 0; it changes when cords before it are added or removed.");
        KnotReader m = with(C + "pendant a 1;pendant a 2;cluster;pendant a 3;");
        S.due(INDEX, () -> m.knownValue(-1));
        S.due(1, () -> m.knownValue(0));
        S.due(3, () -> m.knownValue(2));
        S.due(INDEX, () -> m.knownValue(3));
        m.addSubsidiary(0, 0, 9);
        S.due(3, () -> m.knownValue(3));
        S.due(2, () -> m.knownValue(2));
        m.cut(0);
        S.due(3, () -> m.knownValue(1));
        S.due(INDEX, () -> m.knownValue(2));
        m.tieTop(0, 0);
        S.due(3, () -> m.knownValue(2));
        S.due(1, () -> m.clusterOf(2));
    }

    private static void knots() {
        S.says("A cord has the places 0 (ones), 1 (tens), 2 (hundreds) and 3 (thousands).");
        KnotReader k = with(C + "pendant a 1234;");
        for (int i = 0; i < 4; i++) {
            int place = i;
            S.due(4 - place, () -> k.knotsAt(0, place));
        }
        S.due(ARGUMENT, () -> k.knotsAt(0, -1));
        S.due(ARGUMENT, () -> k.knotsAt(0, 4));

        S.says("Each place has 0 to 9 knots.");
        S.due(0, () -> with(C + "pendant a 0;").knotsAt(0, 3));
        S.due(9, () -> with(C + "pendant a 9999;").knotsAt(0, 3));
        S.due(9, () -> with(C + "pendant a 9999;").knotsAt(0, 0));
        S.due(36, () -> with(C + "pendant a 9999;").knotCount());
        S.due(4, () -> k.setKnots(0, 0, 9));
        S.due(9, () -> k.setKnots(0, 0, 0));
        S.due(ARGUMENT, () -> k.setKnots(0, 0, 10));
        S.due(ARGUMENT, () -> k.setKnots(0, 0, -1));
        S.due(1230, () -> k.knownValue(0));

        S.says("The value of a cord is the number with these digits.");
        KnotReader v = with(C + "pendant a 0;");
        for (int place = 0; place < 4; place++) {
            v.setKnots(0, place, 9 - place);
        }
        S.due(6789, () -> v.knownValue(0));
        S.due(6789, () -> v.totalOf(0));

        S.says("The lowest places of a cord can be nibbled: with n nibbled places, the places 0 to n - 1 are lost, and nobody knows their knots.", "The known value of a cord counts 0 for each nibbled place.");
        int[] known = {1234, 1230, 1200, 1000, 0};
        for (int n = 0; n <= 4; n++) {
            KnotReader lost = with(C + "pendant a 1234" + (n == 0 ? "" : " nibbled " + n) + ";");
            int places = n;
            S.due(known[n], () -> lost.knownValue(0));
            S.due(places, () -> lost.nibbledPlaces(0));
            for (int i = 0; i < 4; i++) {
                int place = i;
                S.due(place < places ? -1 : 4 - place, () -> lost.knotsAt(0, place));
            }
        }
    }

    private static void totals() {
        String all = C + "pendant a 1000;sub 2 a 200;sub 3 a 30;sub 2 a 4;pendant a 5;";
        S.says("The total of a cord is its value plus the totals of all its subsidiaries.");
        S.due(1234, () -> with(all).totalOf(0));
        S.due(230, () -> with(all).totalOf(1));
        S.due(30, () -> with(all).totalOf(2));
        S.due(4, () -> with(all).totalOf(3));
        S.due(5, () -> with(all).totalOf(4));
        S.due(29997, () -> with(C + "pendant a 9999;sub 2 a 9999;sub 3 a 9999;").totalOf(0));
        S.due(399960, () -> with(C + "pendant a 9999;sub 2 a 9999;" + times(38, "sub 3 a 9999;")).totalOf(0));

        S.says("A cord is complete if neither it nor any cord below it (its subsidiaries, their subsidiaries) has nibbled places.");
        S.due(true, () -> with(all).isComplete(0));
        for (int i = 0; i < 5; i++) {
            KnotReader k = with(all);
            int lost = i;
            k.nibble(lost, 1);
            S.due(lost == 4, () -> k.isComplete(0));
            S.due(lost != 1 && lost != 2, () -> k.isComplete(1));
            S.due(lost != 2, () -> k.isComplete(2));
            S.due(lost != 3, () -> k.isComplete(3));
            S.due(lost != 4, () -> k.isComplete(4));
        }

        S.says("The sum of a cluster is the sum of the totals of its pendants.");
        S.due(1239, () -> with(all).sumOf(0));
        S.due(1239, () -> with(all + "top a 7;").sumOf(0));
        S.due(1239, () -> with(all + "cluster;pendant a 50;").sumOf(0));
        S.due(50, () -> with(all + "cluster;pendant a 50;").sumOf(1));
        S.due(0, () -> with(C + "top a 7;").sumOf(0));
        S.due(399960, () -> with(C + times(40, "pendant a 9999;")).sumOf(0));
    }

    private static void states() {
        S.says("The state of a cluster is: NO_TOP, it has no top cord; UNCLEAR, a cord of it has nibbled places; MATCHING, the value of the top cord is the sum; DIFFERING, it is not.");
        String[] setups = {"", "pendant a 1;", "top a 0;", "top a 1;", "top a 1;pendant a 1;", "top a 1;pendant a 2;", "top a 3;pendant a 2;sub 2 a 1;", "top a 2;pendant a 2;sub 2 a 1;",
            "top a 0 nibbled 1;", "top a 1;pendant a 1;sub 2 a 0 nibbled 1;", "top a 1;pendant a 1 nibbled 4;", "pendant a 1 nibbled 1;", "top a 9999;pendant a 9999;", "top a 9999;pendant a 9999;pendant a 1;"};
        int[] states = {0, 0, 2, 3, 2, 3, 2, 3, 1, 1, 1, 0, 2, 3};
        for (int i = 0; i < setups.length; i++) {
            String setup = setups[i];
            S.due(states[i], () -> with(C + setup).stateOf(0));
            S.due(states[i], () -> with(C + "top a 1 nibbled 1;cluster;" + setup).stateOf(1));
            S.due(states[i], () -> with(C + setup + "cluster;top a 3;pendant a 3;").stateOf(0));
        }
    }

    /** The obstacle and, if it is CAN_GUESS, the value of the first cluster. */
    private static String guess(String setup) {
        KnotReader k = with(C + setup);
        return k.guessObstacle(0) == 0 ? "value " + k.guessIn(0) : "obstacle " + k.guessObstacle(0);
    }

    private static void guessing() {
        S.says("If exactly one cord of a cluster with a top cord has nibbled places, its value can be guessed: it is the value with which the cluster would be MATCHING.");
        S.due("value 0", () -> guess("top a 0 nibbled 4;"));
        S.due("value 7", () -> guess("top a 0 nibbled 1;pendant a 3;sub 2 a 4;"));
        S.due("value 3", () -> guess("top a 7;pendant a 0 nibbled 1;sub 2 a 4;"));
        S.due("value 4", () -> guess("top a 7;pendant a 3;sub 2 a 0 nibbled 1;"));
        S.due("value 2", () -> guess("top a 9;pendant a 3;sub 2 a 4;sub 3 a 0 nibbled 2;"));
        S.due("value 13", () -> guess("top a 20;pendant a 10 nibbled 1;pendant a 7;cluster;pendant a 0 nibbled 2;"));
        S.due("obstacle 2", () -> guess("top a 20;pendant a 20;cluster;pendant a 0 nibbled 2;"));
        S.due("obstacle 3", () -> guess("top a 20 nibbled 1;pendant a 20 nibbled 1;"));
        S.due("obstacle 1", () -> guess("pendant a 20 nibbled 1;"));

        S.says("The obstacles are: TOP_MISSING, the cluster has no top cord; NOTHING_NIBBLED, no cord of it has nibbled places; SEVERAL_NIBBLED, more than one has; IMPOSSIBLE, the value would be less than 0 or greater than 9999, or one of its digits would differ from the knots at a place that is not nibbled.");
        S.due("obstacle 1", () -> guess(""));
        S.due("obstacle 1", () -> guess("pendant a 1;"));
        S.due("obstacle 1", () -> guess("pendant a 1 nibbled 1;pendant a 1 nibbled 1;"));
        S.due("obstacle 2", () -> guess("top a 1;"));
        S.due("obstacle 2", () -> guess("top a 1;pendant a 1;sub 2 a 1;"));
        S.due("obstacle 3", () -> guess("top a 1;pendant a 1 nibbled 1;sub 2 a 1 nibbled 1;"));
        S.due("obstacle 3", () -> guess("top a 1 nibbled 4;pendant a 9999;pendant a 1 nibbled 4;pendant a 1 nibbled 4;"));
        S.due("value 0", () -> guess("top a 5;pendant a 5;pendant a 0 nibbled 4;"));
        S.due("obstacle 4", () -> guess("top a 4;pendant a 5;pendant a 0 nibbled 4;"));
        S.due("obstacle 4", () -> guess("top a 0;pendant a 1;pendant a 0 nibbled 1;"));
        S.due("value 9999", () -> guess("top a 0 nibbled 4;pendant a 9998;pendant a 1;"));
        S.due("obstacle 4", () -> guess("top a 0 nibbled 4;pendant a 9998;pendant a 2;"));
        S.due("value 9999", () -> guess("top a 9999;pendant a 9 nibbled 4;"));
        digitsThatDiffer();
    }

    private static void digitsThatDiffer() {
        int[] lowest = {5000, 5600, 5670};
        int[] highest = {5999, 5699, 5679};
        for (int i = 0; i < 3; i++) {
            int n = 3 - i;
            int low = lowest[i];
            int high = highest[i];
            String lost = " nibbled " + n + ";";
            S.due("value " + low, () -> guess("top a " + low + ";pendant a 5678" + lost));
            S.due("value " + high, () -> guess("top a " + high + ";pendant a 5678" + lost));
            S.due("obstacle 4", () -> guess("top a " + (low - 1) + ";pendant a 5678" + lost));
            S.due("obstacle 4", () -> guess("top a " + (high + 1) + ";pendant a 5678" + lost));
            S.due("value " + low, () -> guess("pendant a " + low + ";top a 5678" + lost));
            S.due("value " + high, () -> guess("pendant a " + high + ";top a 5678" + lost));
            S.due("obstacle 4", () -> guess("pendant a " + (low - 1) + ";top a 5678" + lost));
            S.due("obstacle 4", () -> guess("pendant a " + (high + 1) + ";top a 5678" + lost));
        }
        S.due("obstacle 4", () -> guess("top a 6678;pendant a 5678 nibbled 3;"));
        S.due("obstacle 4", () -> guess("top a 5778;pendant a 5678 nibbled 2;"));
        S.due("value 0", () -> guess("top a 0;pendant a 5678 nibbled 4;"));
    }

    private static void tokens() {
        S.says("The input buffer holds at most 700 bytes.");
        KnotReader k = new KnotReader();
        for (int i = 0; i < 35; i++) {
            k.appendInput(0x20202020, 0x20202020, 0x20202020, 0x20202020, 0x20202020);
        }
        S.due(700, () -> Witness.inputLength(k));
        S.due(-1, () -> k.appendInput(0, 0, 0, 0, 0));
        S.due(-1, k::loadCords);
        S.due(700, k::errorOffset);
        S.due("40", () -> load(C + times(40, "pendant a 1234;") + times(84, "\n")));
        S.due("error 1 at 699", () -> load(C + times(40, "pendant a 1234;") + times(83, "\n") + "A"));

        S.says("A token is a word (a maximal run of lowercase letters, at most 8), a number (a maximal run of digits, at most 4) or a semicolon.");
        S.due("1", () -> load("topic a;cluster;pendant a0012nibbled1;"));
        S.due("1", () -> load("topic topic;cluster;pendant topic 9999;"));
        S.due("error 4 at 6", () -> run("tie 0 tie;"));
        S.due("error 4 at 6", () -> run("tie 0 abcdef;"));
        S.due("error 1 at 6", () -> run("tie 0 abcdefgh;"));
        S.due("error 1 at 0", () -> load("clusters;"));
        S.due("error 1 at 0", () -> load("clusterss;"));
        S.due("error 1 at 0", () -> load("topica;"));
        S.due("error 1 at 18", () -> load("topic a;topic abc;abcdefghi;"));
        S.due("error 1 at 26", () -> load(C + "pendant a 00000;"));
        S.due("1", () -> load(C + "pendant a 0000;"));
        S.due("error 1 at 28", () -> load(C + "pendant a 1 2;"));

        S.says("Spaces (byte 32) and line feeds (byte 10) separate tokens and are otherwise ignored.");
        S.due("1", () -> load(" \n topic\na ; \n cluster\n;pendant \n\n a  1\nnibbled\n1\n;\n "));
        S.due("error 5 at 0", () -> load("top ic a;"));
        S.due("error 1 at 8", () -> load("topic a;clust er;"));
        S.due("error 1 at 28", () -> load(C + "pendant a 1\n2;"));
        S.due("error 1 at 5", () -> load("topic\ta;"));
        S.due("error 1 at 8", () -> load("topic a;\r"));
        S.due("error 1 at 0", () -> load("\u0000topic a;"));
        S.due("error 1 at 8", () -> load("topic a;\u00a0"));
        S.due("0", () -> run("\n \n"));

        S.says("Each statement ends with a semicolon.");
        S.due("error 1 at 7", () -> load("topic a"));
        S.due("error 1 at 8", () -> load("topic a cluster;"));
        S.due("error 1 at 8", () -> load("topic a;;"));
        S.due("error 1 at 5", () -> run("cut 0"));
        S.due("error 1 at 6", () -> run("cut 0 cut 0;"));
        S.due("error 1 at 6", () -> run("cut 0;;"));
        S.due("error 1 at 0", () -> run(";"));

        S.says("N stands for a number and TOPIC for a word of 1 to 6 letters, the name of a topic.");
        S.due("error 1 at 24", () -> load(C + "pendant 1 1;"));
        S.due("error 1 at 26", () -> load(C + "pendant a a;"));
        S.due("error 1 at 24", () -> load(C + "pendant abcdefg 1;"));
        S.due("error 4 at 24", () -> load(C + "pendant abcdef 1;"));
        S.due("1", () -> load("topic abcdef;cluster;pendant abcdef 1;"));
        S.due("error 1 at 4", () -> run("cut a;"));
        S.due("error 1 at 6", () -> run("dye 0 1;"));

        S.says("Square brackets enclose what may be missing.");
        S.due(0, () -> with(C + "pendant a 1;").nibbledPlaces(0));
        S.due(1, () -> with(C + "pendant a 1 nibbled 1;").nibbledPlaces(0));
        S.due("error 1 at 28", () -> load(C + "pendant a 1 1;"));
        S.due("error 1 at 35", () -> load(C + "pendant a 1 nibbled;"));
        S.due("error 1 at 38", () -> load(C + "pendant a 1 nibbled 1 nibbled 1;"));
    }

    private static void setupStatements() {
        S.says("The statements of a setup text are:");
        for (String word : new String[] {"tie", "cut", "knot", "nibble", "nibbled", "dye", "repair", "tops", "pendants", "to", "pop", "bendant", "pendans", "dub", "sup", "bluster", "clustes", "ropic", "topix", "x", "0", ";", "("}) {
            S.due("error 1 at 16", () -> load(C + word + " 0 a;"));
            S.due("error 1 at 16", () -> load(C + word));
        }
        S.due("error 1 at 28", () -> load(C + "pendant a 1 dibbled 1;"));
        S.due("error 1 at 28", () -> load(C + "pendant a 1 nibblet 1;"));

        S.says("topic TOPIC (a new one)");
        S.due("a b ", () -> Witness.topics(with("topic a;topic b;")));
        S.due("b ", () -> Witness.topics(with("topic b;")));
        S.due("error 3 at 14", () -> load("topic a;topic a;"));
        S.due("error 1 at 5", () -> load("topic;"));
        S.due("error 1 at 8", () -> load("topic a b;"));
        S.due("error 4 at 24", () -> load(C + "pendant b 1;topic b;"));
        S.due("1", () -> load("cluster;topic a;pendant a 1;"));

        S.says("cluster (a new one behind the others)");
        S.due("a0001|a0002||", () -> Checks.all(with("topic a;cluster;pendant a 1;cluster;pendant a 2;cluster;")));
        S.due("error 1 at 8", () -> load("cluster 1;"));

        S.says("top TOPIC N [ nibbled N ] (the top cord of the latest cluster: its topic, its value, its nibbled places)");
        S.due("|b4567=|", () -> Checks.all(with("topic a;topic b;cluster;cluster;top b 4567;")));
        S.due("a0001|b456?=a0003|", () -> Checks.all(with("topic a;topic b;cluster;pendant a 1;cluster;pendant a 3;top b 4567 nibbled 1;")));
        S.due("error 1 at 20", () -> load(C + "top 1 a;"));
        S.due("error 1 at 21", () -> load(C + "top a;"));
        S.due("error 1 at 24", () -> load(C + "top a 1 1;"));

        S.says("pendant TOPIC N [ nibbled N ] (a new last pendant of the latest cluster)");
        S.due("a0001|a0002+b0003+a????|", () -> Checks.all(with("topic a;topic b;cluster;pendant a 1;cluster;pendant a 2;pendant b 3;pendant a 4 nibbled 4;")));
        S.due("a0001(a0002)+a0003|", () -> Checks.all(with(C + "pendant a 1;sub 2 a 2;pendant a 3;")));
        S.due("error 1 at 24", () -> load(C + "pendant 1 a;"));
        S.due("error 1 at 25", () -> load(C + "pendant a;"));

        S.says("sub N TOPIC N [ nibbled N ] (a depth, 2 or 3; a new last subsidiary of the latest cord with the depth before it in the latest cluster)");
        S.due("a0001+a0002(b0003,a00??)|", () -> Checks.all(with("topic a;topic b;cluster;pendant a 1;pendant a 2;sub 2 b 3;sub 2 a 4 nibbled 2;")));
        S.due("a0001(a0002(a0003,a0005))+a0004|", () -> Checks.all(with(C + "pendant a 1;sub 2 a 2;sub 3 a 3;pendant a 4;sub 3 a 5;")));
        S.due("a0001(a0002,a0003(a0004),a0005(a0006))|", () -> Checks.all(with(C + "pendant a 1;sub 2 a 2;sub 2 a 3;sub 3 a 4;sub 2 a 5;sub 3 a 6;")));
        S.due("error 2 at 32", () -> load(C + "pendant a 1;sub 1 a 1;"));
        S.due("error 2 at 32", () -> load(C + "pendant a 1;sub 0 a 1;"));
        S.due("error 2 at 42", () -> load(C + "pendant a 1;sub 2 a 1;sub 4 a 1;"));
        S.due("error 5 at 40", () -> load(C + "pendant a 1;cluster;sub 2 a 1;"));
        S.due("error 1 at 32", () -> load(C + "pendant a 1;sub a 2 1;"));
        S.due("error 1 at 34", () -> load(C + "pendant a 1;sub 2 2 1;"));

        S.says("Values are 0 to 9999, nibbled places 1 to 4; the knots at nibbled places are lost.");
        S.due("a0000+a9999|", () -> Checks.all(with(C + "pendant a 0;pendant a 9999;")));
        S.due("error 1 at 26", () -> load(C + "pendant a 10000;"));
        S.due("error 2 at 36", () -> load(C + "pendant a 1 nibbled 0;"));
        S.due("error 2 at 36", () -> load(C + "pendant a 1 nibbled 5;"));
        S.due("error 2 at 32", () -> load(C + "top a 1 nibbled 0;"));
        S.due("a987?+a????|", () -> Checks.all(with(C + "pendant a 9876 nibbled 1;pendant a 9876 nibbled 4;")));
        S.due(24, () -> with(C + "pendant a 9876 nibbled 1;pendant a 9876 nibbled 4;").knotCount());
        S.due("error 1 at 15", () -> run("pendant 0 wool 10000;"));
        S.due("2", () -> run("pendant 0 wool 0;pendant 0 wool 9999;"));
    }

    private static void scriptStatements() {
        S.says("The statements of a script are:");
        for (String word : new String[] {"topic", "top", "nibbled", "clusters", "knots", "ties", "bluster", "clustes", "bendant", "pendans", "dub", "sup", "put", "cup", "die", "tin", "snot", "knob", "dibble", "nibbly", "eye", "dyd",
            "depair", "repais", "x", "0", ";", "("}) {
            S.due("error 1 at 0", () -> run(word + " 0 wool;"));
            S.due("error 1 at 0", () -> run(word));
        }

        S.says("cluster | pendant N TOPIC N (a cluster, its topic, its value) | sub N TOPIC N (a cord, its topic, its value) | cut N (a cord) | tie N TOPIC (a cluster) | knot N N N (a cord, a place, knots) | nibble N N (a cord, places) | dye N TOPIC (a cord) | repair N (a cluster)");
        String setup = "topic a;topic b;cluster;pendant a 1;pendant a 2;";
        String[] scripts = {"cluster;", "pendant 0 b 3;", "sub 1 b 3;", "cut 1;", "tie 0 b;", "knot 1 2 3;", "nibble 1 3;", "dye 1 b;", "tie 0 b;nibble 0 2;repair 0;"};
        String[] after = {"a0001+a0002||", "a0001+a0002+b0003|", "a0001+a0002(b0003)|", "a0001|", "b0003=a0001+a0002|", "a0001+a0302|", "a0001+a0???|", "a0001+b0002|", "b0003=a0001+a0002|"};
        for (int i = 0; i < scripts.length; i++) {
            KnotReader k = with(setup);
            String script = scripts[i];
            String last = after[i];
            S.due(script.split(";").length, () -> Checks.run(k, script));
            S.due(last, () -> Checks.all(k));
            S.due(0, k::undo);
            S.due("a0001+a0002|", () -> Checks.all(k));
        }
        String[] wrong = {"cluster 0;", "pendant 0 b;", "pendant b 0 3;", "sub 1 b;", "sub b 1 3;", "cut;", "cut 1 1;", "tie 0;", "tie b 0;", "tie 0 b 1;", "knot 1 2;", "knot 1 2 3 4;", "nibble 1;",
            "nibble 1 2 3;", "dye 1;", "dye b 1;", "dye 1 b 1;", "repair;", "repair 0 0;", "pendant 0 b 3 nibbled 1;"};
        int[] offsets = {8, 11, 8, 7, 4, 3, 6, 5, 4, 8, 8, 11, 8, 11, 5, 4, 8, 6, 9, 14};
        for (int i = 0; i < wrong.length; i++) {
            String script = wrong[i];
            S.due("error 1 at " + offsets[i], () -> run(setup, script));
        }

        S.says("In scripts, numbers of clusters are 0 to 5 and numbers of cords are 0 to 39.");
        String[] ofClusters = {"pendant # wool 1;", "tie # wool;", "repair #;"};
        int[] places = {8, 4, 7};
        for (int i = 0; i < 3; i++) {
            String statement = ofClusters[i];
            int place = places[i];
            S.due(true, () -> !run(statement.replace("#", "0")).startsWith("error"));
            S.due("0", () -> run(statement.replace("#", "5")));
            S.due("error 2 at " + place, () -> run(statement.replace("#", "6")));
            S.due("error 2 at " + place, () -> run(statement.replace("#", "9999")));
        }
        String[] ofCords = {"sub # wool 1;", "cut #;", "knot # 0 0;", "nibble # 1;", "dye # wool;"};
        int[] placesOfCords = {4, 4, 5, 7, 4};
        for (int i = 0; i < 5; i++) {
            String statement = ofCords[i];
            int place = placesOfCords[i];
            S.due("1", () -> run(statement.replace("#", "1")));
            S.due("0", () -> run(statement.replace("#", "39")));
            S.due("error 2 at " + place, () -> run(statement.replace("#", "40")));
            S.due("error 2 at " + place, () -> run(statement.replace("#", "9999")));
        }
        String full = C + times(40, "pendant a 1;");
        S.due("1", () -> run(full, "dye 39 a;"));
        S.due("1", () -> run("topic a;" + times(6, "cluster;"), "pendant 5 a 1;"));
    }

    private static void parsing() {
        S.says("A text is parsed from left to right, and parsing stops at the first token with an error.");
        S.due("error 2 at 4", () -> run("cut 77;tie 0 nobody;x"));
        S.due("error 4 at 6", () -> run("tie 0 nobody;cut 77;x"));
        S.due("error 1 at 0", () -> run("x;cut 77;tie 0 nobody;"));
        S.due("error 3 at 14", () -> load("topic a;topic a;pendant;"));
        S.due("error 5 at 8", () -> load("topic a;pendant b x"));
        S.due("error 2 at 12", () -> load("cluster;sub 5"));

        S.says("If several errors apply to that token, the one with the smallest code is reported.");
        S.due("error 1 at 26", () -> load(C + "pendant a 99999;"));
        S.due("error 1 at 24", () -> load(C + "pendant abcdefg 1;"));
        S.due("error 2 at 20", () -> load(C + "sub 4 a 1;"));
        S.due("error 2 at 20", () -> load(C + "sub 1 a 1;"));
        S.due("error 1 at 20", () -> load(C + "sub 22222 a 1;"));
        S.due("error 5 at " + (16 + 39 * 12 + 8), () -> load(C + times(39, "pendant a 1;") + "top a 1;top a 2;"));
        S.due("error 1 at 7", () -> load("cluster"));
        S.due("error 1 at 180", () -> run(times(30, "cut 0;") + "top 0;"));
        S.due("error 1 at 180", () -> run(times(30, "cut 0;") + "cutcutcut 0;"));

        S.says("The error offset is the index of the first byte of the token, or the length of the text if the text ends too early.");
        S.due("error 4 at 27", () -> load(C + "  pendant\n abc 1;"));
        S.due("error 2 at 36", () -> load(C + "pendant a 1 nibbled 99;"));
        S.due("error 1 at 2", () -> load(" \n!"));
        S.due("error 1 at 9", () -> load("topic a  "));
        S.due("error 1 at 7", () -> load("topic a"));
        S.due("error 1 at 6", () -> load("topic "));
        S.due("error 1 at 25", () -> load(C + "pendant a"));
        S.due("error 1 at 35", () -> load(C + "pendant a 1 nibbled"));
        S.due("error 1 at 5", () -> run("tie 0"));
        S.due("error 1 at 8", () -> run("tie 0 \n "));
        S.due("error 7 at 0", () -> load(""));
    }

    private static void syntax() {
        S.says("The error codes are:");
        S.due(0, () -> KnotReader.NO_ERROR);

        S.says("SYNTAX: the token is not allowed at its place, it is too long, a byte belongs to no token, or the text ends too early.");
        S.due("error 1 at 0", () -> load("maize;"));
        S.due("error 1 at 0", () -> load("12;"));
        S.due("error 1 at 0", () -> load(";topic a;"));
        S.due("error 1 at 6", () -> load("topic topicabc;"));
        S.due("error 1 at 6", () -> load("topic topicabcd;"));
        S.due("error 1 at 16", () -> load(C + "pendantss a 1;"));
        S.due("error 1 at 28", () -> load(C + "pendant a 1 nibbledss 1;"));
        S.due("error 1 at 36", () -> load(C + "pendant a 1 nibbled 00001;"));
        S.due("error 1 at 20", () -> load(C + "sub 00002 a 1;"));
        S.due("error 1 at 4", () -> run("cut 00000;"));
        S.due("1", () -> run("cut 0000;"));
        for (int sign = 0; sign < 256; sign++) {
            char c = (char) sign;
            boolean isSpace = c == ' ' || c == '\n';
            boolean isLetter = c >= 'a' && c <= 'z';
            boolean isDigit = c >= '0' && c <= '9';
            S.due(isSpace || isLetter ? "0" : c == ';' ? "error 1 at 8" : "error 1 at 7", () -> load("topic a" + c + ";"));
            S.due(isSpace ? "1" : isDigit ? "0" : c == ';' ? "error 1 at 6" : "error 1 at 5", () -> run("cut 1" + c + ";"));
        }
        S.due("error 1 at 3", () -> run("cut"));
        S.due("error 1 at 4", () -> run("cut "));
    }

    private static void otherCodes() {
        S.says("OUT_OF_RANGE: a number is out of its range.");
        S.due("error 2 at 20", () -> load(C + "sub 1 a 1;"));
        S.due("error 2 at 20", () -> load(C + "sub 4 a 1;"));
        S.due("error 2 at 36", () -> load(C + "pendant a 1 nibbled 0;"));
        S.due("error 2 at 36", () -> load(C + "pendant a 1 nibbled 5;"));
        String[] good = {"knot 0 0 0;", "knot 0 3 9;", "nibble 0 1;", "nibble 0 4;"};
        for (String script : good) {
            S.due("1", () -> run(script));
        }
        String[] wrong = {"knot 0 4 0;", "knot 0 9999 0;", "knot 0 0 10;", "nibble 0 0;", "nibble 0 5;"};
        int[] offsets = {7, 7, 9, 9, 9};
        for (int i = 0; i < wrong.length; i++) {
            String script = wrong[i];
            S.due("error 2 at " + offsets[i], () -> run(script));
        }

        S.says("DUPLICATE_NAME: the name of a new topic is already used.");
        S.due("error 3 at 14", () -> load("topic a;topic a;"));
        S.due("error 3 at 62", () -> load(EIGHT.substring(0, 56) + "topic a;"));
        S.due("error 3 at 34", () -> load("topic abcdef;topic abcde;  topic  abcdef"));
        S.due("0", () -> load("topic maize;"));
        S.due("0", () -> load("topic abcde;topic abcdef;topic bcdef;"));

        S.says("UNKNOWN_NAME: no topic has the name.");
        S.due("error 4 at 20", () -> load(C + "top b 1;"));
        S.due("error 4 at 24", () -> load(C + "pendant ab 1;"));
        S.due("error 4 at 34", () -> load(C + "pendant a 1;sub 2 b 1;"));
        S.due("error 4 at 24", () -> load(C + "pendant maize 1;"));
        S.due("error 4 at 10", () -> run("pendant 0 woo 1;"));
        S.due("error 4 at 6", () -> run("sub 0 woola 1;"));
        S.due("error 4 at 6", () -> run("tie 0 ool;"));
        S.due("error 4 at 6", () -> run("dye 0 cotton;"));
        S.due("error 4 at 6", () -> run("topic a;topic b;cluster;pendant b 1;", "dye 0 c;"));

        S.says("INCOMPLETE: a setup text ends without a topic; the error offset is then the length of the text.");
        S.due("error 7 at 0", () -> load(""));
        S.due("error 7 at 3", () -> load("  \n"));
        S.due("error 7 at 8", () -> load("cluster;"));
        S.due("error 7 at 49", () -> load(times(6, "cluster;") + " "));
        S.due("error 7 at 700", () -> load(times(700, " ")));
        S.due("error 4 at 16", () -> load("cluster;pendant a 1;"));
        S.due("0", () -> run(""));
    }

    private static void noPlace() {
        S.says("NO_PLACE: the word top, pendant or sub if there is no cluster yet, the word top if the latest cluster has a top cord, or the depth of sub if the latest cluster has no cord of the depth before it.");
        S.due("error 5 at 8", () -> load("topic a;top a 1;"));
        S.due("error 5 at 8", () -> load("topic a;pendant a 1;"));
        S.due("error 5 at 8", () -> load("topic a;sub 2 a 1;"));
        S.due("error 5 at 0", () -> load("sub 9"));
        S.due("error 5 at 0", () -> load("top"));
        S.due("error 5 at 24", () -> load(C + "top a 1;top a 1;"));
        S.due("error 5 at 36", () -> load(C + "top a 1;pendant a 1;top a 1;"));
        S.due("2", () -> load(C + "top a 1;cluster;top a 1;"));
        S.due("error 5 at 20", () -> load(C + "sub 2 a 1;"));
        S.due("error 5 at 20", () -> load(C + "sub 3 a 1;"));
        S.due("error 5 at 28", () -> load(C + "top a 1;sub 2 a 1;"));
        S.due("error 5 at 32", () -> load(C + "pendant a 1;sub 3 a 1;"));
        S.due("3", () -> load(C + "pendant a 1;sub 2 a 1;sub 3 a 1;"));
        S.due("error 5 at 50", () -> load(C + "pendant a 1;sub 2 a 1;cluster;sub 2 a 1;"));
        S.due("error 5 at 62", () -> load(C + "pendant a 1;sub 2 a 1;cluster;pendant a 1;sub 3 a 1;"));
        S.due("4", () -> load(C + "pendant a 1;sub 2 a 1;pendant a 1;sub 3 a 1;"));
    }

    private static void tooMany() {
        S.says("TOO_MANY: the word topic of a ninth topic, the word cluster of a seventh cluster, the word top, pendant or sub of a 41st cord, or the first word of a 31st statement of a script.");
        S.due("0", () -> load(EIGHT));
        S.due("error 6 at 64", () -> load(EIGHT + "topic i;"));
        S.due("error 6 at 64", () -> load(EIGHT + "topic"));
        S.due("error 6 at 64", () -> load(EIGHT + "topic a;"));
        S.due("0", () -> load("topic a;" + times(6, "cluster;")));
        S.due("error 6 at 56", () -> load("topic a;" + times(7, "cluster;")));
        S.due("error 6 at 48", () -> load(times(6, "cluster;") + "cluster"));
        String forty = C + times(40, "pendant a 1;");
        S.due("40", () -> load(forty));
        S.due("error 6 at 496", () -> load(forty + "top a 1;"));
        S.due("error 6 at 496", () -> load(forty + "pendant"));
        S.due("error 6 at 496", () -> load(forty + "sub 2 a 1;"));
        S.due("error 6 at 496", () -> load(forty + "sub 9 b;"));
        S.due("error 6 at 504", () -> load(forty + "cluster;pendant a 1;"));
        S.due("30", () -> run(times(30, "dye 0 wool;")));
        S.due("error 6 at 330", () -> run(times(30, "dye 0 wool;") + "dye 0 wool;"));
        for (String word : new String[] {"cluster", "pendant", "sub", "cut", "tie", "knot", "nibble", "dye", "repair"}) {
            S.due("error 6 at 181", () -> run(times(30, "cut 0;") + "\n" + word));
        }
    }

    private static void changes() {
        S.says("A method that is described as a change can be undone if it did not throw, even if it left everything as it was.");
        KnotReader k = new KnotReader();
        k.setKnots(0, 0, 7);
        k.dye(0, 0);
        k.nibble(7, 1);
        Checks.run(k, "");
        Checks.answer(() -> k.dye(8, 0));
        S.due(3, k::undo);
        S.due(2, k::undo);
        S.due(1, k::undo);
        S.due(0, k::undo);
        S.due(MISSING, k::undo);

        S.says("At most the 8 latest changes can be undone.");
        for (int many : new int[] {7, 8, 9, 15, 16, 17, 40}) {
            KnotReader r = new KnotReader();
            for (int i = 1; i <= many; i++) {
                r.setKnots(0, i / 10 % 4, i % 10);
            }
            String latest = Witness.cords(r);
            int left = Math.min(many, 8);
            for (int i = left - 1; i >= 0; i--) {
                int due = i;
                S.due(due, r::undo);
            }
            S.due(MISSING, r::undo);
            for (int i = many - left + 1; i <= many; i++) {
                r.setKnots(0, i / 10 % 4, i % 10);
            }
            S.due(latest, () -> Witness.cords(r));
        }
    }

    private interface Call {
        Object on(KnotReader k);
    }

    private static final Call[] NO_INDEX = {k -> k.topicByte(2, 0), k -> k.clusterOf(8), k -> k.depthOf(-1), k -> k.parentOf(8), k -> k.topicOf(8), k -> k.subsidiariesOf(8), k -> k.nibbledPlaces(8),
        k -> k.knownValue(8), k -> k.lowestTotal(8), k -> k.highestTotal(8), k -> k.knotsAt(8, 4), k -> k.isComplete(8), k -> k.totalOf(8), k -> k.pendantsIn(2), k -> k.cordsIn(2), k -> k.topOf(2),
        k -> k.firstPendant(2), k -> k.stateOf(2), k -> k.guessObstacle(2), k -> k.sumOf(2), k -> k.guessIn(2), k -> k.nibbledCord(2), k -> k.cordsOfTopic(2), k -> k.sumOfTopic(2),
        k -> k.addPendant(2, 0, -1), k -> k.addPendant(0, 2, 10000), k -> k.addSubsidiary(8, 0, -1), k -> k.addSubsidiary(0, 2, -1), k -> k.addSubsidiary(3, -1, 1), k -> k.cut(8), k -> k.tieTop(2, 0),
        k -> k.tieTop(0, 2), k -> k.setKnots(8, 4, 10), k -> k.setKnots(-1, 0, 0), k -> k.nibble(8, 0), k -> k.dye(8, 0), k -> k.dye(0, 2), k -> k.repair(2), k -> k.writeCluster(2)};
    private static final Call[] BAD_ARGUMENT = {k -> k.knotsAt(7, 4), k -> k.addPendant(0, 0, 10000), k -> k.addSubsidiary(0, 0, -1), k -> k.addSubsidiary(3, 0, 10000), k -> k.setKnots(7, 0, 10),
        k -> k.setKnots(7, -1, 0), k -> k.nibble(7, 0), k -> k.nibble(7, 5)};
    private static final Call[] BAD_STATE = {k -> k.addSubsidiary(0, 0, 1), k -> k.addSubsidiary(3, 0, 1), k -> k.tieTop(0, 0), k -> k.setKnots(7, 0, 5), k -> k.nibble(2, 1), k -> k.repair(0)};
    private static final Call[] NONE_THERE = {k -> k.totalOf(7), k -> k.sumOf(1), k -> k.guessIn(0)};

    private static void throwing() {
        S.says("If several exceptions apply to a call, the one that comes first in its throws clause is thrown.", "A method that throws leaves everything unchanged.");
        each(NO_INDEX, INDEX);
        each(BAD_ARGUMENT, ARGUMENT);
        each(BAD_STATE, STATE);
        each(NONE_THERE, MISSING);
        KnotReader full = with(C + "top a 1;" + times(39, "pendant a 1;"));
        S.due(INDEX, () -> full.addPendant(1, 0, -1));
        S.due(INDEX, () -> full.addPendant(0, 1, -1));
        S.due(ARGUMENT, () -> full.addPendant(0, 0, -1));
        S.due(STATE, () -> full.addPendant(0, 0, 0));
        S.due(INDEX, () -> full.addSubsidiary(40, 0, -1));
        S.due(ARGUMENT, () -> full.addSubsidiary(0, 0, 10000));
        S.due(STATE, () -> full.addSubsidiary(0, 0, 9999));
        S.due(INDEX, () -> full.tieTop(1, 0));
        S.due(INDEX, () -> full.tieTop(0, 1));
        S.due(STATE, () -> full.tieTop(0, 0));
    }

    private static void each(Call[] calls, Class<?> want) {
        String untouched = Witness.everything(used());
        for (Call call : calls) {
            KnotReader k = used();
            S.due(want, () -> call.on(k));
            S.due(untouched, () -> Witness.everything(k));
        }
        KnotReader k = new KnotReader();
        String fresh = Witness.everything(new KnotReader());
        S.due(MISSING, k::undo);
        S.due(MISSING, k::restoreState);
        S.due(fresh, () -> Witness.everything(k));
    }

    /** An object with something in each of its parts, so that a change in any of them can be seen. */
    private static KnotReader used() {
        KnotReader k = new KnotReader();
        k.nibble(4, 1);
        k.saveState();
        k.nibble(2, 2);
        k.dye(3, 0);
        k.writeCluster(1);
        Checks.run(k, "cut 99;");
        Checks.feed(k, "dye 0 wool;knot 1 0 3;");
        k.repair(1);
        k.nibble(7, 3);
        k.nibble(4, 2);
        k.undo();
        k.setKnots(2, 3, 1);
        return k;
    }

    private static void constants() {
        String[] names = {"NONE = -1: Result for \"there is none\".", "NO_ERROR = 0: Error code: no error.", "SYNTAX = 1: Error code: a token is not allowed at its place.",
            "OUT_OF_RANGE = 2: Error code: a number is out of range.", "DUPLICATE_NAME = 3: Error code: a name is used already.", "UNKNOWN_NAME = 4: Error code: a name is not known.",
            "NO_PLACE = 5: Error code: there is no place for a cord.", "TOO_MANY = 6: Error code: there are too many topics, clusters, cords or statements.", "INCOMPLETE = 7: Error code: there is no topic.",
            "NO_TOP = 0: State of a cluster: there is no top cord.", "UNCLEAR = 1: State of a cluster: something is nibbled.", "MATCHING = 2: State of a cluster: the top cord is the sum.",
            "DIFFERING = 3: State of a cluster: the top cord is not the sum.", "CAN_GUESS = 0: Guess obstacle: there is none.", "TOP_MISSING = 1: Guess obstacle: there is no top cord.",
            "NOTHING_NIBBLED = 2: Guess obstacle: nothing is nibbled.", "SEVERAL_NIBBLED = 3: Guess obstacle: several cords are nibbled.", "IMPOSSIBLE = 4: Guess obstacle: no value fits."};
        for (String name : names) {
            S.says(name.startsWith("NONE") ? "The constants: " + name : name);
            S.due(Integer.valueOf(name.replaceAll("^\\w+ = (-?\\d+):.*", "$1")), () -> KnotReader.class.getField(name.replaceAll(" .*", "")).get(null));
        }
    }
}

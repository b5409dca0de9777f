import java.util.NoSuchElementException;

/** The sentences of the promises 43 to 56: changes, the output and the saved state, each with its boundary cases. */
public final class ChangesTest {
    private static final Sentences S = new Sentences("Promise 43:", "Not promised");
    private static final Class<?> INDEX = IndexOutOfBoundsException.class;
    private static final Class<?> ARGUMENT = IllegalArgumentException.class;
    private static final Class<?> STATE = IllegalStateException.class;
    private static final Class<?> MISSING = NoSuchElementException.class;
    private static final int LEAST = Integer.MIN_VALUE;
    private static final int MOST = Integer.MAX_VALUE;
    private static final String FIRST = "m0137=m0040(w0005(w0002))+w0090|w0060=w0023+m003?|";
    private static final String C = "topic a;cluster;";
    private static final String CHANGE = "This is a change.";
    private static final String A_CORD = "cord: index of a cord";
    private static final String A_CLUSTER = "cluster: index of a cluster";
    private static final String A_TOPIC = "topic: index of a topic";
    private static final String NO_CORD = "Throws IndexOutOfBoundsException if there is no such cord";
    private static final String NO_CLUSTER = "Throws IndexOutOfBoundsException if there is no such cluster";

    private interface Call {
        Object on(KnotReader k);
    }

    public static void main(String[] args) {
        addCluster();
        addPendant();
        addSubsidiary();
        cut();
        tieTop();
        setKnots();
        nibble();
        dye();
        repair();
        undo();
        undoKeeps();
        writeCluster();
        outputByte();
        saveState();
        restoreState();
        S.close("ChangesTest");
    }

    private static KnotReader with(String setup) {
        return Checks.with(setup);
    }

    private static void isChange(Call call) {
        isChange(k -> k.dye(4, 0), call);
    }

    /** Quotes that a call is a change, and checks that undoing takes it back, behind a first and behind an eighth change. */
    private static void isChange(Call first, Call call) {
        S.says(CHANGE);
        KnotReader k = new KnotReader();
        first.on(k);
        String before = Witness.cords(k);
        call.on(k);
        S.due(false, () -> before.equals(Witness.cords(k)));
        S.due(1, k::undo);
        S.due(before, () -> Witness.cords(k));
        S.due(0, k::undo);
        S.due(FIRST, () -> Checks.all(k));
        S.due(MISSING, k::undo);
        first.on(k);
        for (int i = 0; i < 7; i++) {
            k.dye(4, i % 2);
        }
        String eighth = Witness.cords(k);
        call.on(k);
        S.due(7, k::undo);
        S.due(eighth, () -> Witness.cords(k));
    }

    private static void thrown(Class<?> want, Call... calls) {
        for (Call call : calls) {
            KnotReader k = new KnotReader();
            S.due(want, () -> call.on(k));
            S.due(FIRST, () -> Checks.all(k));
            S.due(MISSING, k::undo);
        }
    }

    private static void addCluster() {
        S.section("Promise 43: addCluster");
        S.says("Adds a cluster without cords behind the others.", "Returns its index.");
        KnotReader k = new KnotReader();
        for (int i = 2; i < 6; i++) {
            int index = i;
            S.due(index, k::addCluster);
            S.due(index + 1, k::clusterCount);
            S.due(0, () -> k.cordsIn(index));
            S.due(-1, () -> k.topOf(index));
            S.due(-1, () -> k.firstPendant(index));
        }
        S.due(FIRST + "||||", () -> Checks.all(k));
        KnotReader none = with("topic a;");
        S.due(0, none::addCluster);
        S.due(1, none::addCluster);
        isChange(KnotReader::addCluster);

        S.says("Throws IllegalStateException if there are 6 clusters");
        S.due(STATE, k::addCluster);
        S.due(6, k::clusterCount);
        S.due(3, k::undo);
        S.due(5, k::addCluster);
        S.due(STATE, k::addCluster);
        KnotReader six = with("topic a;" + "cluster;".repeat(6));
        S.due(STATE, six::addCluster);
        S.due(MISSING, six::undo);
    }

    private static void addPendant() {
        S.section("Promise 44: addPendant");
        S.says("Adds a pendant behind the other pendants of a cluster.", A_CLUSTER, A_TOPIC, "Returns the index of the new cord.");
        KnotReader k = new KnotReader();
        S.due(5, () -> k.addPendant(0, 1, 12));
        S.due(9, () -> k.addPendant(1, 0, 34));
        S.due(6, () -> k.addPendant(0, 0, 56));
        S.due("m0137=m0040(w0005(w0002))+w0090+w0012+m0056|w0060=w0023+m003?+m0034|", () -> Checks.all(k));
        KnotReader e = with("topic a;cluster;top a 1;cluster;cluster;pendant a 1;sub 2 a 1;sub 3 a 1;");
        S.due(1, () -> e.addPendant(0, 0, 1));
        S.due(2, () -> e.addPendant(1, 0, 2));
        S.due(6, () -> e.addPendant(2, 0, 3));
        S.due("a0001=a0001|a0002|a0001(a0001(a0001))+a0003|", () -> Checks.all(e));
        S.due(0, () -> e.nibbledPlaces(6));
        isChange(r -> r.addPendant(0, 0, 1));

        S.says("Throws IndexOutOfBoundsException if there is no such cluster or no such topic");
        for (int wrong : new int[] {-1, 2, 6, 8, 40, MOST, LEAST}) {
            thrown(INDEX, r -> r.addPendant(wrong, 0, 1), r -> r.addPendant(0, wrong, 1), r -> r.addPendant(wrong, wrong, -1), r -> r.addPendant(1, wrong, 10000));
        }

        S.says("value: 0 to 9999", "Throws IllegalArgumentException if value is out of range");
        for (int wrong : new int[] {-1, 10000, 65536, MOST, LEAST}) {
            thrown(ARGUMENT, r -> r.addPendant(0, 0, wrong), r -> r.addPendant(1, 1, wrong));
        }
        KnotReader v = new KnotReader();
        S.due(5, () -> v.addPendant(0, 0, 0));
        S.due(6, () -> v.addPendant(0, 0, 9999));
        S.due(0, () -> v.knownValue(5));
        S.due(9999, () -> v.knownValue(6));

        S.says("Throws IllegalStateException if there are 40 cords");
        KnotReader f = with("topic a;cluster;" + "pendant a 1;".repeat(39) + "cluster;");
        S.due(39, () -> f.addPendant(1, 0, 1));
        S.due(STATE, () -> f.addPendant(1, 0, 1));
        S.due(STATE, () -> f.addPendant(0, 0, 1));
        S.due(ARGUMENT, () -> f.addPendant(0, 0, 10000));
        S.due(INDEX, () -> f.addPendant(2, 0, 10000));
        S.due(40, f::cordCount);
        S.due(0, f::undo);
        S.due(39, () -> f.addPendant(0, 0, 1));
    }

    private static void addSubsidiary() {
        S.section("Promise 45: addSubsidiary");
        S.says("Adds a subsidiary behind the other subsidiaries of a cord.", A_CORD, A_TOPIC, "Returns the index of the new cord.");
        KnotReader k = new KnotReader();
        S.due(4, () -> k.addSubsidiary(1, 0, 12));
        S.due(4, () -> k.addSubsidiary(2, 1, 34));
        S.due(7, () -> k.addSubsidiary(6, 0, 56));
        S.due("m0137=m0040(w0005(w0002,w0034),m0012)+w0090(m0056)|w0060=w0023+m003?|", () -> Checks.all(k));
        S.due(11, () -> k.addSubsidiary(10, 0, 7));
        S.due("w0060=w0023+m003?(m0007)", () -> Checks.written(k, 1));
        S.due(0, () -> k.nibbledPlaces(11));
        isChange(r -> r.addSubsidiary(1, 0, 1));

        S.says("Throws IndexOutOfBoundsException if there is no such cord or no such topic");
        for (int wrong : new int[] {-1, 8, 40, MOST, LEAST}) {
            thrown(INDEX, r -> r.addSubsidiary(wrong, 0, 1), r -> r.addSubsidiary(1, wrong, 1), r -> r.addSubsidiary(wrong, wrong, -1), r -> r.addSubsidiary(0, wrong, 10000));
        }
        thrown(INDEX, r -> r.addSubsidiary(1, 2, 1), r -> r.addSubsidiary(3, 2, -1));

        S.says("value: 0 to 9999", "Throws IllegalArgumentException if value is out of range");
        for (int wrong : new int[] {-1, 10000, 65536, MOST, LEAST}) {
            thrown(ARGUMENT, r -> r.addSubsidiary(1, 0, wrong), r -> r.addSubsidiary(0, 0, wrong), r -> r.addSubsidiary(3, 0, wrong));
        }
        KnotReader v = with(C + "pendant a 1;");
        S.due(1, () -> v.addSubsidiary(0, 0, 0));
        S.due(2, () -> v.addSubsidiary(0, 0, 9999));
        S.due("a0001(a0000,a9999)|", () -> Checks.all(v));

        S.says("Throws IllegalStateException if the cord is a top cord or has the depth 3, or there are 40 cords");
        thrown(STATE, r -> r.addSubsidiary(0, 0, 1), r -> r.addSubsidiary(5, 0, 1), r -> r.addSubsidiary(3, 0, 1));
        KnotReader f = with(C + "top a 1;pendant a 1;sub 2 a 1;sub 3 a 1;" + "pendant a 1;".repeat(35));
        S.due(4, () -> f.addSubsidiary(2, 0, 1));
        for (int i = 0; i < 40; i += 13) {
            int cord = i;
            S.due(STATE, () -> f.addSubsidiary(cord, 0, 1));
        }
        S.due(STATE, () -> f.addSubsidiary(1, 0, 1));
        S.due(STATE, () -> f.addSubsidiary(2, 0, 1));
        S.due(ARGUMENT, () -> f.addSubsidiary(1, 0, -1));
        S.due(INDEX, () -> f.addSubsidiary(40, 0, 1));
        f.cut(39);
        S.due(39, () -> f.addSubsidiary(38, 0, 1));
    }

    private static void cut() {
        S.section("Promise 46: cut");
        S.says("Cuts off a cord and all cords below it.", A_CORD, "Returns the number of cords that were cut off.");
        int[] counts = {1, 3, 2, 1, 1, 1, 1, 1};
        String[] after = {"m0040(w0005(w0002))+w0090|w0060=w0023+m003?|", "m0137=w0090|w0060=w0023+m003?|", "m0137=m0040+w0090|w0060=w0023+m003?|", "m0137=m0040(w0005)+w0090|w0060=w0023+m003?|",
            "m0137=m0040(w0005(w0002))|w0060=w0023+m003?|", "m0137=m0040(w0005(w0002))+w0090|w0023+m003?|", "m0137=m0040(w0005(w0002))+w0090|w0060=m003?|", "m0137=m0040(w0005(w0002))+w0090|w0060=w0023|"};
        for (int i = 0; i < 8; i++) {
            KnotReader k = new KnotReader();
            int cord = i;
            String left = after[i];
            S.due(counts[i], () -> k.cut(cord));
            S.due(left, () -> Checks.all(k));
            S.due(2, k::clusterCount);
        }
        KnotReader t = with(C + "top a 9;pendant a 1;sub 2 a 2;sub 3 a 3;sub 3 a 4;sub 2 a 5;sub 3 a 6;pendant a 7;sub 2 a 8;");
        S.due(3, () -> t.cut(2));
        S.due("a0009=a0001(a0005(a0006))+a0007(a0008)|", () -> Checks.all(t));
        S.due(1, () -> t.cut(0));
        S.due("a0001(a0005(a0006))+a0007(a0008)|", () -> Checks.all(t));
        S.due(2, () -> t.cut(3));
        S.due(3, () -> t.cut(0));
        S.due("|", () -> Checks.all(t));
        S.due(40, () -> with(C + "pendant a 1;sub 2 a 1;" + "sub 3 a 1;".repeat(38)).cut(0));
        isChange(r -> r.cut(1));

        S.says(NO_CORD);
        for (int wrong : new int[] {-1, 8, 40, MOST, LEAST}) {
            thrown(INDEX, r -> r.cut(wrong));
        }
        S.due(INDEX, () -> t.cut(0));
        S.due(1, () -> with(C + "pendant a 1;".repeat(40)).cut(39));
    }

    private static void tieTop() {
        S.section("Promise 47: tieTop");
        S.says("Ties a top cord with the sum of a cluster.", A_CLUSTER, A_TOPIC, "Returns the sum.");
        KnotReader k = new KnotReader();
        k.cut(0);
        S.due(137, () -> k.tieTop(0, 1));
        S.due("w0137=m0040(w0005(w0002))+w0090|w0060=w0023+m003?|", () -> Checks.all(k));
        S.due(0, () -> k.topOf(0));
        S.due(0, () -> k.nibbledPlaces(0));
        S.due(KnotReader.MATCHING, () -> k.stateOf(0));
        S.due(0, () -> with(C + "pendant a 0;").tieTop(0, 0));
        KnotReader second = with(C + "pendant a 1;cluster;pendant a 2;sub 2 a 3;");
        S.due(5, () -> second.tieTop(1, 0));
        S.due("a0001|a0005=a0002(a0003)|", () -> Checks.all(second));
        isChange(r -> r.cut(0), r -> r.tieTop(0, 1));

        S.says("Throws IndexOutOfBoundsException if there is no such cluster or no such topic");
        for (int wrong : new int[] {-1, 2, 6, 8, MOST, LEAST}) {
            thrown(INDEX, r -> r.tieTop(wrong, 0), r -> r.tieTop(0, wrong), r -> r.tieTop(wrong, wrong));
        }

        S.says("Throws IllegalStateException if the cluster has a top cord or no pendant, one of its pendants is not complete, its sum is greater than 9999, or there are 40 cords");
        thrown(STATE, r -> r.tieTop(0, 0), r -> r.tieTop(1, 1));
        S.due(STATE, () -> with(C + "top a 1;").tieTop(0, 0));
        S.due(STATE, () -> with(C).tieTop(0, 0));
        S.due(STATE, () -> with(C + "cluster;pendant a 1;").tieTop(0, 0));
        S.due(STATE, () -> with(C + "pendant a 1 nibbled 1;").tieTop(0, 0));
        S.due(STATE, () -> with(C + "pendant a 1;pendant a 2;sub 2 a 1;sub 3 a 1 nibbled 4;").tieTop(0, 0));
        S.due(1, () -> with(C + "pendant a 1;cluster;pendant a 2 nibbled 1;").tieTop(0, 0));
        S.due(9999, () -> with(C + "pendant a 9999;").tieTop(0, 0));
        S.due(9999, () -> with(C + "pendant a 9000;sub 2 a 900;sub 3 a 90;pendant a 9;").tieTop(0, 0));
        S.due(STATE, () -> with(C + "pendant a 9000;sub 2 a 900;sub 3 a 90;pendant a 10;").tieTop(0, 0));
        S.due(STATE, () -> with(C + "pendant a 9999;".repeat(39)).tieTop(0, 0));
        S.due(39, () -> with(C + "pendant a 1;".repeat(39)).tieTop(0, 0));
        S.due(STATE, () -> with(C + "pendant a 1;".repeat(40)).tieTop(0, 0));
        S.due(INDEX, () -> with(C + "pendant a 1;".repeat(40)).tieTop(0, 1));
    }

    private static void setKnots() {
        S.section("Promise 48: setKnots");
        S.says("Sets the knots at a place of a cord.", A_CORD, "Returns the knots before that.");
        KnotReader k = with(C + "pendant a 1;pendant a 4321;pendant a 1;");
        S.due(1, () -> k.setKnots(1, 0, 9));
        S.due(4329, () -> k.knownValue(1));
        S.due(2, () -> k.setKnots(1, 1, 0));
        S.due(3, () -> k.setKnots(1, 2, 8));
        S.due(4, () -> k.setKnots(1, 3, 0));
        S.due("a0001+a0809+a0001|", () -> Checks.all(k));
        S.due(0, () -> k.setKnots(1, 3, 9));
        S.due(9, () -> k.setKnots(1, 3, 9));
        S.due(9809, () -> k.knownValue(1));
        isChange(r -> r.setKnots(0, 1, 9));

        S.says(NO_CORD);
        for (int wrong : new int[] {-1, 8, 40, MOST, LEAST}) {
            thrown(INDEX, r -> r.setKnots(wrong, 0, 1), r -> r.setKnots(wrong, 4, 10));
        }

        S.says("place: 0 to 3", "knots: 0 to 9", "Throws IllegalArgumentException if place or knots is out of range");
        for (int wrong : new int[] {-1, 10, 11, 256, MOST, LEAST}) {
            thrown(ARGUMENT, r -> r.setKnots(0, wrong, 1), r -> r.setKnots(0, 0, wrong), r -> r.setKnots(7, 0, wrong), r -> r.setKnots(7, wrong, 0));
        }
        thrown(ARGUMENT, r -> r.setKnots(0, 4, 1), r -> r.setKnots(0, 9, 1), r -> r.setKnots(7, 4, 10));

        S.says("Throws IllegalStateException if the place is nibbled");
        thrown(STATE, r -> r.setKnots(7, 0, 0), r -> r.setKnots(7, 0, 9));
        S.due(3, () -> new KnotReader().setKnots(7, 1, 0));
        for (int n = 1; n <= 4; n++) {
            for (int i = 0; i < 4; i++) {
                KnotReader r = with(C + "pendant a 9876 nibbled " + n + ";");
                int place = i;
                S.due(place < n ? STATE : (Object) (6 + place), () -> r.setKnots(0, place, 1));
            }
        }
    }

    private static void nibble() {
        S.section("Promise 49: nibble");
        S.says("Nibbles the lowest places of a cord.", A_CORD, "Returns the number of knots that were lost.");
        int[] lost = {4, 7, 9, 10};
        String[] after = {"a123?", "a12??", "a1???", "a????"};
        for (int n = 1; n <= 4; n++) {
            KnotReader k = with(C + "pendant a 1234;");
            int places = n;
            S.due(lost[places - 1], () -> k.nibble(0, places));
            S.due(places, () -> k.nibbledPlaces(0));
            S.due(after[places - 1], () -> Checks.written(k, 0));
            S.due(0, () -> k.nibble(0, places));
            S.due(10 - lost[places - 1], () -> k.nibble(0, 4));
        }
        S.due(36, () -> with(C + "pendant a 9999;").nibble(0, 4));
        S.due(0, () -> with(C + "pendant a 1000;").nibble(0, 3));
        S.due(2, () -> with(C + "pendant a 1234 nibbled 2;").nibble(0, 3));
        isChange(r -> r.nibble(1, 2));

        S.says(NO_CORD);
        for (int wrong : new int[] {-1, 8, 40, MOST, LEAST}) {
            thrown(INDEX, r -> r.nibble(wrong, 1), r -> r.nibble(wrong, 0));
        }

        S.says("places: number of places that are nibbled after that, 1 to 4", "Throws IllegalArgumentException if places is out of range");
        for (int wrong : new int[] {0, -1, 5, 256, MOST, LEAST}) {
            thrown(ARGUMENT, r -> r.nibble(0, wrong), r -> r.nibble(7, wrong));
        }

        S.says("Throws IllegalStateException if more places of the cord are nibbled already");
        for (int n = 1; n <= 4; n++) {
            for (int m = 1; m <= 4; m++) {
                KnotReader k = with(C + "pendant a 1111 nibbled " + n + ";");
                int before = n;
                int places = m;
                S.due(places < before ? STATE : (Object) (places - before), () -> k.nibble(0, places));
                S.due(Math.max(before, places), () -> k.nibbledPlaces(0));
            }
        }
    }

    private static void dye() {
        S.section("Promise 50: dye");
        S.says("Dyes a cord in the colour of a topic.", A_CORD, A_TOPIC, "Returns the topic before that.");
        KnotReader k = new KnotReader();
        S.due(0, () -> k.dye(0, 1));
        S.due(1, () -> k.dye(0, 1));
        S.due(1, () -> k.dye(0, 0));
        S.due(0, () -> k.dye(7, 1));
        S.due(1, () -> k.dye(3, 0));
        S.due("m0137=m0040(w0005(m0002))+w0090|w0060=w0023+w003?|", () -> Checks.all(k));
        isChange(r -> r.dye(0, 1));

        S.says("Throws IndexOutOfBoundsException if there is no such cord or no such topic");
        for (int wrong : new int[] {-1, 8, 40, MOST, LEAST}) {
            thrown(INDEX, r -> r.dye(wrong, 0), r -> r.dye(0, wrong), r -> r.dye(wrong, wrong));
        }
        thrown(INDEX, r -> r.dye(0, 2), r -> r.dye(7, 2));
        S.due(INDEX, () -> with("topic a;").dye(0, 0));
    }

    private static void repair() {
        S.section("Promise 51: repair");
        S.says("Repairs the only nibbled cord of a cluster: it gets the guessed value and has no nibbled places any more.", A_CLUSTER, "Returns the guessed value.");
        KnotReader k = new KnotReader();
        S.due(37, () -> k.repair(1));
        S.due("m0137=m0040(w0005(w0002))+w0090|w0060=w0023+m0037|", () -> Checks.all(k));
        S.due(0, () -> k.nibbledPlaces(7));
        S.due(KnotReader.MATCHING, () -> k.stateOf(1));
        S.due(7, () -> k.setKnots(7, 0, 1));
        for (int cord = 0; cord < 5; cord++) {
            int[] values = {137, 40, 5, 2, 90};
            for (int places = 1; places <= 4; places++) {
                KnotReader r = new KnotReader();
                int due = values[cord];
                r.nibble(cord, places);
                S.due(due, () -> r.repair(0));
                S.due(FIRST, () -> Checks.all(r));
            }
        }
        S.due(0, () -> with(C + "top a 1;pendant a 1;pendant a 7 nibbled 1;").repair(0));
        S.due(9999, () -> with(C + "top a 1 nibbled 4;pendant a 9999;").repair(0));
        isChange(r -> r.repair(1));

        S.says(NO_CLUSTER);
        for (int wrong : new int[] {-1, 2, 6, 8, MOST, LEAST}) {
            thrown(INDEX, r -> r.repair(wrong));
        }

        S.says("Throws IllegalStateException if guessObstacle(cluster) is not CAN_GUESS");
        thrown(STATE, r -> r.repair(0));
        S.due(STATE, () -> k.repair(1));
        S.due(STATE, () -> with(C).repair(0));
        S.due(STATE, () -> with(C + "pendant a 1 nibbled 1;").repair(0));
        S.due(STATE, () -> with(C + "top a 1;pendant a 1;").repair(0));
        S.due(STATE, () -> with(C + "top a 1 nibbled 1;pendant a 1 nibbled 1;").repair(0));
        S.due(STATE, () -> with(C + "top a 0;pendant a 1;pendant a 0 nibbled 1;").repair(0));
        S.due(STATE, () -> with(C + "top a 10;pendant a 0 nibbled 1;").repair(0));
        S.due(STATE, () -> with(C + "top a 0 nibbled 4;pendant a 9999;pendant a 1;").repair(0));
    }

    /** Makes the change number i of a run of different ones. */
    private static void changeNumber(KnotReader k, int i) {
        switch (i % 6) {
            case 0:
                k.addPendant(0, 1, i);
                break;
            case 1:
                k.setKnots(1, i % 4, i % 10);
                break;
            case 2:
                Checks.run(k, "knot 1 2 7;cut 2;dye 1 wool;");
                break;
            case 3:
                k.cut(k.cordCount() - 1);
                break;
            case 4:
                k.nibble(0, 1 + i / 6 % 4);
                break;
            default:
                k.addSubsidiary(1, 0, i);
        }
    }

    private static void undo() {
        S.section("Promise 52: undo");
        S.says("Undoes the latest change that has not been undone.", "Returns the number of changes that can still be undone.");
        for (int many = 0; many <= 20; many++) {
            KnotReader k = new KnotReader();
            String[] states = new String[many + 1];
            for (int i = 0; i < many; i++) {
                states[i] = Witness.cords(k);
                changeNumber(k, i);
            }
            for (int left = Math.min(many, 8) - 1; left >= 0; left--) {
                int due = left;
                S.due(due, k::undo);
                S.due(states[Math.max(many - 8, 0) + left], () -> Witness.cords(k));
            }
            S.due(MISSING, k::undo);
        }
        KnotReader z = new KnotReader();
        for (int i = 0; i < 8; i++) {
            z.setKnots(0, 0, i);
        }
        S.due(7, z::undo);
        S.due(6, z::undo);
        z.setKnots(0, 1, 9);
        S.due(6, z::undo);
        S.due(5, () -> z.knotsAt(0, 0));
        S.due(3, () -> z.knotsAt(0, 1));
        z.setKnots(0, 1, 8);
        z.setKnots(0, 2, 8);
        z.setKnots(0, 3, 8);
        for (int left = 7; left >= 0; left--) {
            int due = left;
            S.due(due, z::undo);
        }
        S.due(0, () -> z.knotsAt(0, 0));
        S.due(MISSING, z::undo);

        S.says("Throws NoSuchElementException if there is no change to undo");
        S.due(MISSING, () -> new KnotReader().undo());
        KnotReader n = new KnotReader();
        Checks.answer(() -> n.cut(8));
        Checks.run(n, "cut 40;");
        n.writeCluster(0);
        n.saveState();
        n.isConsistent();
        n.appendInput(0, 0, 0, 0, 0);
        n.truncateInput(0);
        S.due(MISSING, n::undo);
        n.dye(0, 1);
        n.restoreState();
        S.due(MISSING, n::undo);
        n.dye(0, 1);
        Checks.load(n, "topic a;");
        S.due(MISSING, n::undo);
        n.addCluster();
        S.due(0, n::undo);
        S.due(MISSING, n::undo);
        S.due(0, n::clusterCount);
    }

    private static void undoKeeps() {
        S.says("The input buffer, the reported error, the output and the saved state stay as they are.");
        KnotReader k = new KnotReader();
        k.cut(4);
        k.saveState();
        k.dye(0, 1);
        k.writeCluster(1);
        Checks.run(k, "cut 40;");
        Checks.feed(k, "cluster;");
        k.undo();
        k.undo();
        S.due("error 2 at 4", () -> Witness.error(k));
        S.due("w0060=w0023+m003?", () -> Witness.output(k));
        S.due(8, () -> Witness.inputLength(k));
        S.due(FIRST, () -> Checks.all(k));
        S.due(1, k::runScript);
        S.due(FIRST + "|", () -> Checks.all(k));
        S.due(7, k::restoreState);
        S.due("m0137=m0040(w0005(w0002))|w0060=w0023+m003?|", () -> Checks.all(k));
    }

    private static void writeCluster() {
        S.section("Promise 53: writeCluster");
        S.says("Writes a cluster to the output, replacing the former output.", A_CLUSTER, "Returns the number of bytes written.");
        KnotReader k = new KnotReader();
        S.due(31, () -> k.writeCluster(0));
        S.due(17, () -> k.writeCluster(1));
        S.due("w0060=w0023+m003?", () -> Witness.output(k));
        k.addCluster();
        S.due(0, () -> k.writeCluster(2));
        S.due("", () -> Witness.output(k));
        S.due(31, () -> k.writeCluster(0));
        S.due("m0137=m0040(w0005(w0002))+w0090", () -> Witness.output(k));
        S.due(239, () -> with(C + "pendant a 1;".repeat(40)).writeCluster(0));
        S.due(265, () -> with(C + "top a 1;" + "pendant a 1;sub 2 a 1;sub 3 a 1;".repeat(13)).writeCluster(0));
        S.due(0, k::undo);

        S.says("Each cord is written as the first letter of its topic and its four places from 3 to 0, each as a digit or, if it is nibbled, as a question mark (byte 63).");
        String[] written = {"z9876", "z987?", "z98??", "z9???", "z????"};
        for (int n = 0; n <= 4; n++) {
            String lost = n == 0 ? ";" : " nibbled " + n + ";";
            String due = written[n];
            S.due(due, () -> Checks.written(with("topic a;topic zab;cluster;pendant zab 9876" + lost), 0));
            S.due(due + "=", () -> Checks.written(with("topic a;topic zab;cluster;top zab 9876" + lost), 0));
        }
        S.due("a0000", () -> Checks.written(with(C + "pendant a 0;"), 0));
        KnotReader q = with(C + "pendant a 1203 nibbled 1;");
        q.writeCluster(0);
        int[] bytes = {97, 49, 50, 48, 63, -1};
        for (int i = 0; i < 6; i++) {
            int at = i;
            S.due(bytes[i], () -> q.outputByte(at));
        }

        S.says("If the cord has subsidiaries, an opening parenthesis (byte 40), the subsidiaries in the same way with a comma (byte 44) between two of them, and a closing parenthesis (byte 41) follow.");
        String[] subs = {"", "sub 2 a 2;", "sub 2 a 2;sub 2 a 3;", "sub 2 a 2;sub 3 a 3;", "sub 2 a 2;sub 3 a 3;sub 3 a 4;", "sub 2 a 2;sub 3 a 3;sub 2 a 4;", "sub 2 a 2;sub 2 a 3;sub 3 a 4;sub 3 a 5;sub 2 a 6;sub 3 a 7;"};
        String[] due = {"a0001", "a0001(a0002)", "a0001(a0002,a0003)", "a0001(a0002(a0003))", "a0001(a0002(a0003,a0004))", "a0001(a0002(a0003),a0004)", "a0001(a0002,a0003(a0004,a0005),a0006(a0007))"};
        for (int i = 0; i < subs.length; i++) {
            String setup = C + "pendant a 1;" + subs[i];
            String text = due[i];
            S.due(text, () -> Checks.written(with(setup), 0));
            S.due(text + "+a0009", () -> Checks.written(with(setup + "pendant a 9;"), 0));
            S.due("a0000=a0008+" + text, () -> Checks.written(with(C + "top a 0;pendant a 8;" + setup.substring(C.length())), 0));
            S.due(text, () -> Checks.written(with(setup + "cluster;pendant a 5;"), 0));
        }
        KnotReader p = with(C + "pendant a 1;sub 2 a 2;sub 2 a 3;");
        p.writeCluster(0);
        S.due(40, () -> p.outputByte(5));
        S.due(44, () -> p.outputByte(11));
        S.due(41, () -> p.outputByte(17));

        S.says("The top cord is written first, if there is one, and an equals sign (byte 61); then the pendants with a plus sign (byte 43) between two of them.");
        S.due("a0001=", () -> Checks.written(with(C + "top a 1;"), 0));
        S.due("a0001=a0002", () -> Checks.written(with(C + "pendant a 2;top a 1;"), 0));
        S.due("a0001=a0002+a0003+a0004", () -> Checks.written(with(C + "top a 1;pendant a 2;pendant a 3;pendant a 4;"), 0));
        S.due("a0002", () -> Checks.written(with(C + "pendant a 2;"), 0));
        S.due("a0002+a0003", () -> Checks.written(with(C + "pendant a 2;pendant a 3;"), 0));
        S.due("", () -> Checks.written(with(C), 0));
        S.due("", () -> Checks.written(with(C + "cluster;top a 1;pendant a 1;"), 0));
        KnotReader e = with(C + "top a 1;pendant a 2;pendant a 3;");
        e.writeCluster(0);
        S.due(61, () -> e.outputByte(5));
        S.due(43, () -> e.outputByte(11));

        S.says(NO_CLUSTER);
        for (int wrong : new int[] {-1, 2, 6, 8, MOST, LEAST}) {
            thrown(INDEX, r -> r.writeCluster(wrong));
        }
        S.due(INDEX, () -> e.writeCluster(1));
        S.due("a0001=a0002+a0003", () -> Witness.output(e));
        S.due(INDEX, () -> with("topic a;").writeCluster(0));
    }

    private static void outputByte() {
        S.section("Promise 54: outputByte");
        S.says("Returns a byte of the output.", "index: index of the byte, from 0", "Returns the byte, or NONE if there is no such byte.");
        KnotReader k = new KnotReader();
        S.due(-1, () -> k.outputByte(0));
        k.writeCluster(0);
        S.due((int) 'm', () -> k.outputByte(0));
        S.due((int) '0', () -> k.outputByte(30));
        for (int wrong : new int[] {-1, 31, 32, 256, 320, 321, 322, MOST, LEAST}) {
            S.due(-1, () -> k.outputByte(wrong));
        }
        k.writeCluster(1);
        S.due(63, () -> k.outputByte(16));
        S.due(-1, () -> k.outputByte(17));
        k.addCluster();
        k.writeCluster(2);
        S.due(-1, () -> k.outputByte(0));
        KnotReader longest = with(C + "top a 1;" + "pendant a 1;sub 2 a 1;sub 3 a 1;".repeat(13));
        longest.writeCluster(0);
        S.due(41, () -> longest.outputByte(264));
        S.due(-1, () -> longest.outputByte(265));
    }

    private static void saveState() {
        S.section("Promise 55: saveState");
        S.says("Saves all clusters and cords, replacing an earlier saved state.", "Returns the number of cords.");
        KnotReader k = new KnotReader();
        S.due(8, k::saveState);
        k.addCluster();
        k.cut(1);
        S.due(5, k::saveState);
        Checks.run(k, "cut 0;cut 0;cut 0;cut 0;cut 0;");
        S.due(0, k::cordCount);
        S.due(5, k::restoreState);
        S.due("m0137=w0090|w0060=w0023+m003?||", () -> Checks.all(k));
        S.due(0, () -> with("topic a;").saveState());
        S.due(40, () -> with(C + "pendant a 1;".repeat(40)).saveState());
        KnotReader full = with("topic a;" + "cluster;".repeat(6) + "top a 5;" + "pendant a 1234 nibbled 2;".repeat(25));
        String before = Witness.cords(full);
        S.due(26, full::saveState);
        Checks.run(full, "cut 25;cut 24;cut 0;nibble 3 4;");
        S.due(26, full::restoreState);
        S.due(before, () -> Witness.cords(full));
        // saving is no change and leaves the changes before it to be undone
        KnotReader c = new KnotReader();
        c.dye(0, 1);
        c.saveState();
        S.due(0, c::undo);
        S.due(MISSING, c::undo);
        S.due(FIRST, () -> Checks.all(c));
        S.due(8, c::restoreState);
        S.due("w" + FIRST.substring(1), () -> Checks.all(c));
        KnotReader empty = with("topic a;");
        empty.saveState();
        empty.addCluster();
        S.due(0, empty::restoreState);
        S.due(0, empty::clusterCount);
    }

    private static void restoreState() {
        S.section("Promise 56: restoreState");
        S.says("Restores the saved state, which remains saved.", "Nothing can be undone after that.", "Returns the number of cords after that.");
        KnotReader k = new KnotReader();
        k.saveState();
        for (int i = 0; i < 3; i++) {
            k.cut(0);
            k.addCluster();
            Checks.run(k, "knot 2 1 9;cut");
            k.writeCluster(0);
            Checks.feed(k, "x");
            S.due(8, k::restoreState);
            S.due(MISSING, k::undo);
            S.due("error 1 at 14", () -> Witness.error(k));
            S.due("m0040(w0005(w0002))+w0090", () -> Witness.output(k));
            S.due(1, () -> Witness.inputLength(k));
            k.truncateInput(0);
            S.due(FIRST, () -> Checks.all(k));
        }
        S.due(8, k::restoreState);
        k.dye(0, 1);
        S.due(0, k::undo);
        S.due(FIRST, () -> Checks.all(k));

        S.says("Throws NoSuchElementException if no state is saved");
        S.due(MISSING, () -> new KnotReader().restoreState());
        KnotReader n = new KnotReader();
        n.dye(0, 1);
        S.due(MISSING, n::restoreState);
        S.due(0, n::undo);
        n.saveState();
        Checks.load(n, "x");
        S.due(8, n::restoreState);
        Checks.load(n, "topic a;");
        S.due(MISSING, n::restoreState);
        n.saveState();
        S.due(0, n::restoreState);
    }
}

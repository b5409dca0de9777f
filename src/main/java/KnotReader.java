import java.util.NoSuchElementException;

/** A reader of knotted cords; README.md says how to use it, ../shared/DOC.md what it promises. */
public final class KnotReader {
    public static final int NONE = -1;
    public static final int NO_ERROR = 0;
    public static final int SYNTAX = 1;
    public static final int OUT_OF_RANGE = 2;
    public static final int DUPLICATE_NAME = 3;
    public static final int UNKNOWN_NAME = 4;
    public static final int NO_PLACE = 5;
    public static final int TOO_MANY = 6;
    public static final int INCOMPLETE = 7;
    public static final int NO_TOP = 0;
    public static final int UNCLEAR = 1;
    public static final int MATCHING = 2;
    public static final int DIFFERING = 3;
    public static final int CAN_GUESS = 0;
    public static final int TOP_MISSING = 1;
    public static final int NOTHING_NIBBLED = 2;
    public static final int SEVERAL_NIBBLED = 3;
    public static final int IMPOSSIBLE = 4;

    private static final int MAX_TOPICS = 8;
    private static final int MAX_LETTERS = 6;
    private static final int MAX_CLUSTERS = 6;
    private static final int MAX_CORDS = 40;
    private static final int MAX_DEPTH = 3;
    private static final int PLACES = 4;
    private static final int MAX_KNOTS = 9;
    private static final int MAX_VALUE = 9999;
    private static final int MAX_TEXT = 700;
    private static final int BYTES_A_CALL = 20;
    private static final int MAX_STATEMENTS = 30;
    private static final int MAX_UNDO = 8;
    // A cord writes 5 bytes, at most one byte before them and two parentheses;
    // an equals sign comes once.
    private static final int MAX_OUTPUT = MAX_CORDS * 8 + 1;

    private static final String FIRST_SETUP = "topic maize;topic wool;cluster;top maize 137;pendant maize 40;sub 2 wool 5;sub 3 wool 2;pendant wool 90;cluster;top wool 60;pendant wool 23;pendant maize 30 nibbled 1;";

    // The changes; a script's statements and the methods share them.
    private static final int NO_CHANGE = -1;
    private static final int ADD_CLUSTER = 0;
    private static final int ADD_PENDANT = 1;
    private static final int ADD_SUBSIDIARY = 2;
    private static final int CUT = 3;
    private static final int TIE_TOP = 4;
    private static final int SET_KNOTS = 5;
    private static final int NIBBLE = 6;
    private static final int DYE = 7;
    private static final int REPAIR = 8;

    // What stands against a change.
    private static final int FINE = 0;
    private static final int BAD_INDEX = 1;
    private static final int BAD_ARGUMENT = 2;
    private static final int BAD_STATE = 3;

    private final Text input = new Text();
    private final Output output = new Output();
    private final Topics topics = new Topics();
    private final Cords cords = new Cords();
    private final Topics draftTopics = new Topics();
    private final Cords draft = new Cords();
    private final Cords saved = new Cords();
    private final History history = new History();
    private final Script script = new Script();
    private boolean hasSaved = false;
    private int reportedCode = NO_ERROR;
    private int reportedOffset = NONE;

    public KnotReader() {
        input.put(FIRST_SETUP);
        Setup.parse(input, topics, cords);
        input.clear();
    }

    public int appendInput(int a, int b, int c, int d, int e) {
        if (input.length + BYTES_A_CALL > MAX_TEXT) {
            return NONE;
        }
        input.putFour(a);
        input.putFour(b);
        input.putFour(c);
        input.putFour(d);
        input.putFour(e);
        return input.length;
    }

    public boolean truncateInput(int length) {
        if (length < 0 || length > input.length) {
            return false;
        }
        input.length = length;
        return true;
    }

    public int loadCords() {
        Setup.parse(input, draftTopics, draft);
        if (!closeText()) {
            return NONE;
        }
        topics.copyFrom(draftTopics);
        cords.copyFrom(draft);
        history.clear();
        hasSaved = false;
        return cords.size;
    }

    public int runScript() {
        script.parse(input, topics);
        if (!closeText()) {
            return NONE;
        }
        history.push(cords);
        for (int i = 0; i < script.size; i++) {
            int kind = script.kinds.get(i);
            int first = script.firsts.get(i);
            int second = script.seconds.get(i);
            int third = script.thirds.get(i);
            if (problemOf(kind, first, second, third) != FINE) {
                return i;
            }
            perform(kind, first, second, third);
        }
        return script.size;
    }

    /** Takes over what parsing found and empties the buffer; false if the text has an error. */
    private boolean closeText() {
        reportedCode = input.code;
        reportedOffset = input.offset;
        input.clear();
        return reportedCode == NO_ERROR;
    }

    public int errorCode() {
        return reportedCode;
    }

    public int errorOffset() {
        return reportedOffset;
    }

    public int topicCount() {
        return topics.size;
    }

    public int clusterCount() {
        return cords.clusters;
    }

    public int cordCount() {
        return cords.size;
    }

    public int knotCount() {
        int knots = 0;
        for (int cord = 0; cord < cords.size; cord++) {
            knots += Knots.sum(cords.value.get(cord));
        }
        return knots;
    }

    public int nibbledCount() {
        return cords.nibbledAmong(0, cords.size);
    }

    public int matchingCount() {
        int matching = 0;
        for (int cluster = 0; cluster < cords.clusters; cluster++) {
            if (cords.state(cluster) == MATCHING) {
                matching++;
            }
        }
        return matching;
    }

    public int topicByte(int topic, int index) throws IndexOutOfBoundsException {
        requireTopic(topic);
        return topics.letter(topic, index);
    }

    public int clusterOf(int cord) throws IndexOutOfBoundsException {
        requireCord(cord);
        return cords.clusterAt(cord);
    }

    public int depthOf(int cord) throws IndexOutOfBoundsException {
        requireCord(cord);
        return cords.depth.get(cord);
    }

    public int parentOf(int cord) throws IndexOutOfBoundsException {
        requireCord(cord);
        return cords.parent(cord);
    }

    public int topicOf(int cord) throws IndexOutOfBoundsException {
        requireCord(cord);
        return cords.topic.get(cord);
    }

    public int subsidiariesOf(int cord) throws IndexOutOfBoundsException {
        requireCord(cord);
        return cords.countAtDepth(cord + 1, cords.branchEnd(cord), cords.depth.get(cord) + 1);
    }

    public int nibbledPlaces(int cord) throws IndexOutOfBoundsException {
        requireCord(cord);
        return cords.nibbled.get(cord);
    }

    public int knownValue(int cord) throws IndexOutOfBoundsException {
        requireCord(cord);
        return cords.value.get(cord);
    }

    public int lowestTotal(int cord) throws IndexOutOfBoundsException {
        requireCord(cord);
        return cords.lowestSum(cord, cords.branchEnd(cord));
    }

    public int highestTotal(int cord) throws IndexOutOfBoundsException {
        requireCord(cord);
        return cords.highestSum(cord, cords.branchEnd(cord));
    }

    public int knotsAt(int cord, int place) throws IndexOutOfBoundsException, IllegalArgumentException {
        requireCord(cord);
        if (!isPlace(place)) {
            throw new IllegalArgumentException("no such place");
        }
        return place < cords.nibbled.get(cord) ? NONE : Knots.at(cords.value.get(cord), place);
    }

    public boolean isComplete(int cord) throws IndexOutOfBoundsException {
        requireCord(cord);
        return cords.nibbledAmong(cord, cords.branchEnd(cord)) == 0;
    }

    public int totalOf(int cord) throws IndexOutOfBoundsException, NoSuchElementException {
        requireCord(cord);
        int end = cords.branchEnd(cord);
        if (cords.nibbledAmong(cord, end) > 0) {
            throw new NoSuchElementException("the cord is not complete");
        }
        return cords.lowestSum(cord, end);
    }

    public int pendantsIn(int cluster) throws IndexOutOfBoundsException {
        requireCluster(cluster);
        return cords.countAtDepth(cords.start(cluster), cords.end(cluster), 1);
    }

    public int cordsIn(int cluster) throws IndexOutOfBoundsException {
        requireCluster(cluster);
        return cords.end(cluster) - cords.start(cluster);
    }

    public int topOf(int cluster) throws IndexOutOfBoundsException {
        requireCluster(cluster);
        return cords.hasTop(cluster) ? cords.start(cluster) : NONE;
    }

    public int firstPendant(int cluster) throws IndexOutOfBoundsException {
        requireCluster(cluster);
        int first = cords.pendantStart(cluster);
        return first < cords.end(cluster) ? first : NONE;
    }

    public int stateOf(int cluster) throws IndexOutOfBoundsException {
        requireCluster(cluster);
        return cords.state(cluster);
    }

    public int guessObstacle(int cluster) throws IndexOutOfBoundsException {
        requireCluster(cluster);
        return cords.obstacle(cluster);
    }

    public int sumOf(int cluster) throws IndexOutOfBoundsException, NoSuchElementException {
        requireCluster(cluster);
        if (!cords.hasKnownSum(cluster)) {
            throw new NoSuchElementException("a pendant is not complete");
        }
        return cords.sum(cluster);
    }

    public int guessIn(int cluster) throws IndexOutOfBoundsException, NoSuchElementException {
        requireCluster(cluster);
        if (cords.obstacle(cluster) != CAN_GUESS) {
            throw new NoSuchElementException("nothing can be guessed");
        }
        return cords.guess(cluster);
    }

    public int nibbledCord(int cluster) throws IndexOutOfBoundsException {
        requireCluster(cluster);
        return cords.onlyNibbled(cluster);
    }

    public int cordsOfTopic(int topic) throws IndexOutOfBoundsException {
        requireTopic(topic);
        return cords.countOfTopic(topic);
    }

    public int sumOfTopic(int topic) throws IndexOutOfBoundsException {
        requireTopic(topic);
        int sum = 0;
        for (int cord = 0; cord < cords.size; cord++) {
            if (cords.topic.get(cord) == topic && cords.depth.get(cord) > 0) {
                sum += cords.value.get(cord);
            }
        }
        return sum;
    }

    public int mostUsedTopic() {
        int best = 0;
        for (int topic = 1; topic < topics.size; topic++) {
            if (cords.countOfTopic(topic) > cords.countOfTopic(best)) {
                best = topic;
            }
        }
        return best;
    }

    public int greatestCord() {
        int best = cords.size > 0 ? 0 : NONE;
        for (int cord = 1; cord < cords.size; cord++) {
            if (cords.value.get(cord) > cords.value.get(best)) {
                best = cord;
            }
        }
        return best;
    }

    public double averageValue() {
        if (cords.size <= 0) {
            return 0;
        }
        return (double) cords.lowestSum(0, cords.size) / (double) cords.size;
    }

    public float nibbledPart() {
        if (cords.size <= 0) {
            return 0;
        }
        return (float) cords.nibbledAmong(0, cords.size) / (float) cords.size;
    }

    public boolean isConsistent() {
        return Check.order(cords) && Check.branches(cords) && Check.sums(cords) && Check.guesses(cords, draft);
    }

    public int addCluster() throws IllegalStateException {
        return change(ADD_CLUSTER, 0, 0, 0);
    }

    public int addPendant(int cluster, int topic, int value) throws IndexOutOfBoundsException, IllegalArgumentException, IllegalStateException {
        return change(ADD_PENDANT, cluster, topic, value);
    }

    public int addSubsidiary(int cord, int topic, int value) throws IndexOutOfBoundsException, IllegalArgumentException, IllegalStateException {
        return change(ADD_SUBSIDIARY, cord, topic, value);
    }

    public int cut(int cord) throws IndexOutOfBoundsException {
        return change(CUT, cord, 0, 0);
    }

    public int tieTop(int cluster, int topic) throws IndexOutOfBoundsException, IllegalStateException {
        return change(TIE_TOP, cluster, topic, 0);
    }

    public int setKnots(int cord, int place, int knots) throws IndexOutOfBoundsException, IllegalArgumentException, IllegalStateException {
        return change(SET_KNOTS, cord, place, knots);
    }

    public int nibble(int cord, int places) throws IndexOutOfBoundsException, IllegalArgumentException, IllegalStateException {
        return change(NIBBLE, cord, places, 0);
    }

    public int dye(int cord, int topic) throws IndexOutOfBoundsException {
        return change(DYE, cord, topic, 0);
    }

    public int repair(int cluster) throws IndexOutOfBoundsException, IllegalStateException {
        return change(REPAIR, cluster, 0, 0);
    }

    public int undo() throws NoSuchElementException {
        if (history.size <= 0) {
            throw new NoSuchElementException("there is no change to undo");
        }
        history.pop(cords);
        return history.size;
    }

    public int writeCluster(int cluster) throws IndexOutOfBoundsException {
        requireCluster(cluster);
        output.length = 0;
        int end = cords.end(cluster);
        int depthBefore = 0;
        for (int cord = cords.start(cluster); cord < end; cord++) {
            int depth = cords.depth.get(cord);
            output.putJoint(depthBefore, depth);
            output.put(topics.letter(cords.topic.get(cord), 0));
            output.putPlaces(cords.value.get(cord), cords.nibbled.get(cord));
            if (depth == 0) {
                output.put('=');
            }
            depthBefore = depth;
        }
        output.closeTo(depthBefore, 1);
        return output.length;
    }

    public int outputByte(int index) {
        return index >= 0 && index < output.length ? output.bytes.get(index) : NONE;
    }

    public int saveState() {
        saved.copyFrom(cords);
        hasSaved = true;
        return cords.size;
    }

    public int restoreState() throws NoSuchElementException {
        if (!hasSaved) {
            throw new NoSuchElementException("no state is saved");
        }
        cords.copyFrom(saved);
        history.clear();
        return cords.size;
    }

    private void requireTopic(int topic) {
        if (!topics.has(topic)) {
            throw new IndexOutOfBoundsException("no such topic");
        }
    }

    private void requireCluster(int cluster) {
        if (!cords.hasCluster(cluster)) {
            throw new IndexOutOfBoundsException("no such cluster");
        }
    }

    private void requireCord(int cord) {
        if (!cords.has(cord)) {
            throw new IndexOutOfBoundsException("no such cord");
        }
    }

    private static boolean isPlace(int place) {
        return place >= 0 && place < PLACES;
    }

    private static boolean isValue(int value) {
        return value >= 0 && value <= MAX_VALUE;
    }

    private int change(int kind, int a, int b, int c) {
        int problem = problemOf(kind, a, b, c);
        if (problem == BAD_INDEX) {
            throw new IndexOutOfBoundsException("no such cluster, cord or topic");
        }
        if (problem == BAD_ARGUMENT) {
            throw new IllegalArgumentException("a number is out of range");
        }
        if (problem == BAD_STATE) {
            throw new IllegalStateException("the cords do not allow this");
        }
        history.push(cords);
        return perform(kind, a, b, c);
    }

    /** What stands against a change: of several problems, the one whose exception comes first. */
    private int problemOf(int kind, int a, int b, int c) {
        switch (kind) {
            case ADD_CLUSTER:
                return cords.clusters < MAX_CLUSTERS ? FINE : BAD_STATE;
            case ADD_PENDANT:
                return newCordProblem(cords.hasCluster(a), true, b, c);
            case ADD_SUBSIDIARY:
                return newCordProblem(cords.has(a), cords.canHoldMore(a), b, c);
            case CUT:
                return cords.has(a) ? FINE : BAD_INDEX;
            case TIE_TOP:
                return tieProblem(a, b);
            case SET_KNOTS:
                return knotsProblem(a, b, c);
            case NIBBLE:
                return nibbleProblem(a, b);
            case DYE:
                return cords.has(a) && topics.has(b) ? FINE : BAD_INDEX;
            case REPAIR:
                return !cords.hasCluster(a) ? BAD_INDEX : cords.obstacle(a) == CAN_GUESS ? FINE : BAD_STATE;
            default:
                return BAD_STATE;
        }
    }

    private int newCordProblem(boolean holderExists, boolean holderHasPlace, int topic, int value) {
        if (!holderExists || !topics.has(topic)) {
            return BAD_INDEX;
        }
        if (!isValue(value)) {
            return BAD_ARGUMENT;
        }
        return holderHasPlace && cords.size < MAX_CORDS ? FINE : BAD_STATE;
    }

    private int tieProblem(int cluster, int topic) {
        if (!cords.hasCluster(cluster) || !topics.has(topic)) {
            return BAD_INDEX;
        }
        if (cords.hasTop(cluster) || cords.start(cluster) == cords.end(cluster) || cords.size >= MAX_CORDS) {
            return BAD_STATE;
        }
        return cords.hasKnownSum(cluster) && isValue(cords.sum(cluster)) ? FINE : BAD_STATE;
    }

    private int knotsProblem(int cord, int place, int knots) {
        if (!cords.has(cord)) {
            return BAD_INDEX;
        }
        if (!isPlace(place) || knots < 0 || knots > MAX_KNOTS) {
            return BAD_ARGUMENT;
        }
        return place >= cords.nibbled.get(cord) ? FINE : BAD_STATE;
    }

    private int nibbleProblem(int cord, int places) {
        if (!cords.has(cord)) {
            return BAD_INDEX;
        }
        if (places < 1 || places > PLACES) {
            return BAD_ARGUMENT;
        }
        return places >= cords.nibbled.get(cord) ? FINE : BAD_STATE;
    }

    /** Makes a change against which nothing stands, and answers as its method does. */
    private int perform(int kind, int a, int b, int c) {
        switch (kind) {
            case ADD_CLUSTER:
                return cords.openCluster();
            case ADD_PENDANT:
                return cords.insert(cords.end(a), a, 1, b, c);
            case ADD_SUBSIDIARY:
                return cords.insert(cords.branchEnd(a), cords.clusterAt(a), cords.depth.get(a) + 1, b, c);
            case CUT:
                return cords.remove(a, cords.branchEnd(a));
            case TIE_TOP:
                return cords.tie(a, b);
            case SET_KNOTS:
                return cords.knot(a, b, c);
            case NIBBLE:
                return cords.loseKnots(a, b);
            case DYE:
                return cords.topic.replace(a, b);
            case REPAIR:
                return cords.mend(a);
            default:
                return NONE;
        }
    }

    /** A row of numbers; outside its bounds it reads as 0 and keeps nothing, so that no index can fail. */
    private static final class Row {
        private final int[] cells;

        Row(int size) {
            cells = new int[size > 0 ? size : 0];
        }

        int get(int index) {
            return index >= 0 && index < cells.length ? cells[index] : 0;
        }

        void set(int index, int value) {
            if (index >= 0 && index < cells.length) {
                cells[index] = value;
            }
        }

        int replace(int index, int value) {
            int before = get(index);
            set(index, value);
            return before;
        }

        void copyFrom(Row other) {
            for (int i = 0; i < cells.length; i++) {
                cells[i] = other.get(i);
            }
        }

        /** Moves the cells behind index up by one and puts a value there. */
        void insert(int index, int value, int size) {
            for (int i = size; i > index; i--) {
                set(i, get(i - 1));
            }
            set(index, value);
        }

        void remove(int from, int to, int size) {
            for (int i = 0; i < size - to; i++) {
                set(from + i, get(to + i));
            }
        }
    }

    /** The arithmetic of places: 0 stands for the ones, 3 for the thousands. */
    private static final class Knots {
        static int power(int places) {
            switch (places) {
                case 0:
                    return 1;
                case 1:
                    return 10;
                case 2:
                    return 100;
                case 3:
                    return 1000;
                default:
                    return 10000;
            }
        }

        static int at(int value, int place) {
            return withoutLast(value, place) % 10;
        }

        static int sum(int value) {
            int knots = 0;
            for (int place = 0; place < PLACES; place++) {
                knots += at(value, place);
            }
            return knots;
        }

        /** The value with 0 for its lowest places. */
        static int lose(int value, int places) {
            return withoutLast(value, places) * power(places);
        }

        private static int withoutLast(int value, int digits) {
            int left = value;
            for (int i = 0; i < digits; i++) {
                left = left / 10;
            }
            return left;
        }
    }

    /** The names of the topics, each as one number: five bits a letter (1 to 26), the first lowest. */
    private static final class Topics {
        private int size = 0;
        private final Row names = new Row(MAX_TOPICS);

        void clear() {
            size = 0;
        }

        void copyFrom(Topics other) {
            size = other.size;
            names.copyFrom(other.names);
        }

        boolean has(int topic) {
            return topic >= 0 && topic < size;
        }

        int letter(int topic, int index) {
            if (index < 0 || index >= MAX_LETTERS) {
                return NONE;
            }
            int letter = names.get(topic) >> 5 * index & 31;
            return letter == 0 ? NONE : 'a' - 1 + letter;
        }

        int find(int name) {
            for (int topic = 0; topic < size; topic++) {
                if (names.get(topic) == name) {
                    return topic;
                }
            }
            return NONE;
        }

        void add(int name) {
            if (size < MAX_TOPICS) {
                names.set(size, name);
                size++;
            }
        }
    }

    /**
     * All clusters and cords, a column for each of a cord's properties, in the reading order: the
     * cords of a cluster, and a cord with all below it, are then always a range of indices.
     */
    private static final class Cords {
        private int clusters = 0;
        private int size = 0;
        // The first index of each cluster (always 0 for the first), and behind the last one the number
        // of cords.
        private final Row starts = new Row(MAX_CLUSTERS + 1);
        private final Row depth = new Row(MAX_CORDS);
        private final Row topic = new Row(MAX_CORDS);
        // The known value: its nibbled places are 0.
        private final Row value = new Row(MAX_CORDS);
        private final Row nibbled = new Row(MAX_CORDS);

        void clear() {
            clusters = 0;
            size = 0;
        }

        void copyFrom(Cords other) {
            clusters = other.clusters;
            size = other.size;
            starts.copyFrom(other.starts);
            depth.copyFrom(other.depth);
            topic.copyFrom(other.topic);
            value.copyFrom(other.value);
            nibbled.copyFrom(other.nibbled);
        }

        boolean has(int cord) {
            return cord >= 0 && cord < size;
        }

        boolean hasCluster(int index) {
            return index >= 0 && index < clusters;
        }

        boolean canHoldMore(int cord) {
            return depth.get(cord) >= 1 && depth.get(cord) < MAX_DEPTH;
        }

        int start(int index) {
            return starts.get(index);
        }

        int end(int index) {
            return starts.get(index + 1);
        }

        int clusterAt(int cord) {
            int found = 0;
            for (int index = 1; index < clusters; index++) {
                if (starts.get(index) <= cord) {
                    found = index;
                }
            }
            return found;
        }

        int pendantStart(int index) {
            int first = starts.get(index);
            return first < starts.get(index + 1) && depth.get(first) == 0 ? first + 1 : first;
        }

        boolean hasTop(int index) {
            return pendantStart(index) > starts.get(index);
        }

        /** The index behind a cord and all cords below it. */
        int branchEnd(int cord) {
            int end = cord + 1;
            // The pendants behind a top cord are deeper, but not below it. No other
            // branch needs the end of its cluster: the next begins with depth 0 or 1.
            if (depth.get(cord) == 0) {
                return end;
            }
            while (end < size && depth.get(end) > depth.get(cord)) {
                end++;
            }
            return end;
        }

        int parent(int cord) {
            if (depth.get(cord) <= 1) {
                return NONE;
            }
            return latestAtDepth(0, cord, depth.get(cord) - 1);
        }

        int latestAtDepth(int from, int to, int wanted) {
            for (int cord = to - 1; cord >= from; cord--) {
                if (depth.get(cord) == wanted) {
                    return cord;
                }
            }
            return NONE;
        }

        int countAtDepth(int from, int to, int wanted) {
            int count = 0;
            for (int cord = from; cord < to; cord++) {
                if (depth.get(cord) == wanted) {
                    count++;
                }
            }
            return count;
        }

        int countOfTopic(int wanted) {
            int count = 0;
            for (int cord = 0; cord < size; cord++) {
                if (topic.get(cord) == wanted) {
                    count++;
                }
            }
            return count;
        }

        int nibbledAmong(int from, int to) {
            int count = 0;
            for (int cord = from; cord < to; cord++) {
                if (nibbled.get(cord) > 0) {
                    count++;
                }
            }
            return count;
        }

        int lowestSum(int from, int to) {
            int sum = 0;
            for (int cord = from; cord < to; cord++) {
                sum += value.get(cord);
            }
            return sum;
        }

        int highestSum(int from, int to) {
            int sum = 0;
            for (int cord = from; cord < to; cord++) {
                sum += value.get(cord) + Knots.power(nibbled.get(cord)) - 1;
            }
            return sum;
        }

        boolean hasKnownSum(int index) {
            return nibbledAmong(pendantStart(index), end(index)) == 0;
        }

        int sum(int index) {
            return lowestSum(pendantStart(index), end(index));
        }

        int state(int index) {
            if (!hasTop(index)) {
                return NO_TOP;
            }
            int top = start(index);
            if (nibbledAmong(top, end(index)) > 0) {
                return UNCLEAR;
            }
            return value.get(top) == sum(index) ? MATCHING : DIFFERING;
        }

        int onlyNibbled(int index) {
            int only = NONE;
            int end = starts.get(index + 1);
            for (int cord = starts.get(index); cord < end; cord++) {
                if (nibbled.get(cord) > 0) {
                    if (only != NONE) {
                        return NONE;
                    }
                    only = cord;
                }
            }
            return only;
        }

        /** The value with which a cluster with a top cord and one nibbled cord would be MATCHING. */
        int guess(int index) {
            int top = starts.get(index);
            int lost = onlyNibbled(index);
            int known = lowestSum(top + 1, starts.get(index + 1));
            return lost == top ? known : value.get(top) - (known - value.get(lost));
        }

        int obstacle(int index) {
            if (!hasTop(index)) {
                return TOP_MISSING;
            }
            int count = nibbledAmong(start(index), end(index));
            if (count == 0) {
                return NOTHING_NIBBLED;
            }
            if (count > 1) {
                return SEVERAL_NIBBLED;
            }
            return fits(onlyNibbled(index), guess(index)) ? CAN_GUESS : IMPOSSIBLE;
        }

        private boolean fits(int cord, int guessed) {
            return isValue(guessed) && Knots.lose(guessed, nibbled.get(cord)) == value.get(cord);
        }

        int openCluster() {
            if (clusters >= MAX_CLUSTERS) {
                return NONE;
            }
            clusters++;
            starts.set(clusters, size);
            return clusters - 1;
        }

        int insert(int at, int index, int newDepth, int newTopic, int newValue) {
            if (size >= MAX_CORDS) {
                return NONE;
            }
            depth.insert(at, newDepth, size);
            topic.insert(at, newTopic, size);
            value.insert(at, newValue, size);
            nibbled.insert(at, 0, size);
            resize(index, 1);
            return at;
        }

        int remove(int from, int to) {
            int index = clusterAt(from);
            depth.remove(from, to, size);
            topic.remove(from, to, size);
            value.remove(from, to, size);
            nibbled.remove(from, to, size);
            resize(index, from - to);
            return to - from;
        }

        private void resize(int index, int more) {
            size += more;
            for (int next = index + 1; next <= clusters; next++) {
                starts.set(next, starts.get(next) + more);
            }
        }

        int tie(int index, int newTopic) {
            int total = sum(index);
            insert(start(index), index, 0, newTopic, total);
            return total;
        }

        int knot(int cord, int place, int knots) {
            int before = Knots.at(value.get(cord), place);
            value.set(cord, value.get(cord) + (knots - before) * Knots.power(place));
            return before;
        }

        int loseKnots(int cord, int places) {
            int before = Knots.sum(value.get(cord));
            value.set(cord, Knots.lose(value.get(cord), places));
            nibbled.set(cord, places);
            return before - Knots.sum(value.get(cord));
        }

        int mend(int index) {
            int guessed = guess(index);
            int cord = onlyNibbled(index);
            value.set(cord, guessed);
            nibbled.set(cord, 0);
            return guessed;
        }
    }

    /** The checks of isConsistent. */
    private static final class Check {
        static boolean order(Cords cords) {
            int found = 0;
            for (int cluster = 0; cluster < cords.clusters; cluster++) {
                found += cords.end(cluster) - cords.start(cluster);
            }
            for (int cord = 0; cord < cords.size; cord++) {
                if (!standsWell(cords, cord)) {
                    return false;
                }
            }
            return found == cords.size;
        }

        private static boolean standsWell(Cords cords, int cord) {
            int cluster = cords.clusterAt(cord);
            if (cord < cords.start(cluster) || cord >= cords.end(cluster)) {
                return false;
            }
            int depth = cords.depth.get(cord);
            if (cord == cords.start(cluster)) {
                return depth == 0 || depth == 1;
            }
            return depth >= 1 && depth <= MAX_DEPTH && depth <= cords.depth.get(cord - 1) + 1;
        }

        static boolean branches(Cords cords) {
            for (int cord = 0; cord < cords.size; cord++) {
                int end = cords.branchEnd(cord);
                int lowest = cords.lowestSum(cord, end);
                boolean complete = cords.nibbledAmong(cord, end) == 0;
                if ((lowest == cords.highestSum(cord, end)) != complete) {
                    return false;
                }
                if (lowest != totalByRecursion(cords, cord, cords.depth.get(cord))) {
                    return false;
                }
            }
            return true;
        }

        private static int totalByRecursion(Cords cords, int cord, int depth) {
            int total = cords.value.get(cord);
            if (depth >= MAX_DEPTH) {
                return total;
            }
            int end = cords.branchEnd(cord);
            for (int below = cord + 1; below < end; below++) {
                if (cords.depth.get(below) == depth + 1) {
                    total += totalByRecursion(cords, below, depth + 1);
                }
            }
            return total;
        }

        static boolean sums(Cords cords) {
            for (int cluster = 0; cluster < cords.clusters; cluster++) {
                if (cords.hasKnownSum(cluster) && cords.sum(cluster) != sumByRecursion(cords, cluster)) {
                    return false;
                }
            }
            return true;
        }

        private static int sumByRecursion(Cords cords, int cluster) {
            int sum = 0;
            int end = cords.end(cluster);
            for (int cord = cords.start(cluster); cord < end; cord++) {
                if (cords.depth.get(cord) == 1) {
                    sum += totalByRecursion(cords, cord, 1);
                }
            }
            return sum;
        }

        /** Tries each guess on a copy, in the cords that the caller lends for that. */
        static boolean guesses(Cords cords, Cords copy) {
            for (int cluster = 0; cluster < cords.clusters; cluster++) {
                if (cords.obstacle(cluster) == CAN_GUESS) {
                    copy.copyFrom(cords);
                    copy.mend(cluster);
                    if (copy.state(cluster) != MATCHING) {
                        return false;
                    }
                }
            }
            return true;
        }
    }

    /** The latest changes: the cords as they were before each, in a ring. */
    private static final class History {
        private final Cords[] ring = new Cords[MAX_UNDO];
        private int latest = 0;
        private int size = 0;

        History() {
            for (int i = 0; i < ring.length; i++) {
                ring[i] = new Cords();
            }
        }

        void clear() {
            size = 0;
        }

        void push(Cords cords) {
            latest = (latest + 1) % MAX_UNDO;
            size = size < MAX_UNDO ? size + 1 : MAX_UNDO;
            Cords kept = at(latest);
            if (kept != null) {
                kept.copyFrom(cords);
            }
        }

        void pop(Cords cords) {
            Cords kept = at(latest);
            if (size > 0 && kept != null) {
                cords.copyFrom(kept);
                size--;
            }
            latest = (latest + MAX_UNDO - 1) % MAX_UNDO;
        }

        private Cords at(int index) {
            return index >= 0 && index < ring.length ? ring[index] : null;
        }
    }

    /** The output of writeCluster. */
    private static final class Output {
        private final Row bytes = new Row(MAX_OUTPUT);
        private int length = 0;

        void put(int next) {
            if (length < MAX_OUTPUT) {
                bytes.set(length, next);
                length++;
            }
        }

        /** Puts what stands between two cords; a depth of 0 before means that there is nothing. */
        void putJoint(int depthBefore, int depth) {
            if (depthBefore == 0) {
                return;
            }
            if (depth > depthBefore) {
                put('(');
                return;
            }
            closeTo(depthBefore, depth);
            put(depth == 1 ? '+' : ',');
        }

        void closeTo(int depthBefore, int depth) {
            for (int open = depth; open < depthBefore; open++) {
                put(')');
            }
        }

        void putPlaces(int value, int nibbledPlaces) {
            for (int place = PLACES - 1; place >= 0; place--) {
                put(place < nibbledPlaces ? '?' : '0' + Knots.at(value, place));
            }
        }
    }

    /** The input buffer, its current token, and the first error; behind an error nothing is read. */
    private static final class Text {
        private static final int NOTHING = 0;
        private static final int SEPARATOR = 1;
        private static final int WORD = 2;
        private static final int NUMBER = 3;
        private static final int SEMICOLON = 4;
        private static final int BAD = 5;
        private static final int MAX_WORD = 8;
        private static final int MAX_DIGITS = 4;

        private final Row bytes = new Row(MAX_TEXT);
        private int length = 0;
        private int kind = NOTHING;
        private int start = 0;
        private int end = 0;
        private int code = NO_ERROR;
        private int offset = NONE;

        void clear() {
            length = 0;
        }

        void put(String text) {
            for (int i = 0; i < text.length(); i++) {
                putByte(text.charAt(i));
            }
        }

        void putFour(int four) {
            for (int shift = 24; shift >= 0; shift -= 8) {
                putByte(four >> shift & 255);
            }
        }

        private void putByte(int next) {
            if (length < MAX_TEXT) {
                bytes.set(length, next);
                length++;
            }
        }

        void begin() {
            end = 0;
            code = NO_ERROR;
            offset = NONE;
        }

        boolean hasFailed() {
            return code != NO_ERROR;
        }

        /** Reports an error at the current token, unless there is an earlier or a smaller one. */
        void fail(int newCode) {
            if (code == NO_ERROR) {
                code = newCode;
                offset = start;
            }
        }

        void next() {
            start = end;
            while (start < length && sortAt(start) == SEPARATOR) {
                start++;
            }
            kind = sortAt(start);
            end = start < length ? start + 1 : start;
            boolean isRun = kind == WORD || kind == NUMBER;
            while (isRun && end < length && sortAt(end) == kind) {
                end++;
            }
            if (isRun && end - start > (kind == WORD ? MAX_WORD : MAX_DIGITS)) {
                kind = BAD;
            }
        }

        /** The kind of token to which a byte can belong. */
        private int sortAt(int index) {
            if (index >= length) {
                return NOTHING;
            }
            int sign = bytes.get(index);
            if (sign == ' ' || sign == '\n') {
                return SEPARATOR;
            }
            if (sign >= 'a' && sign <= 'z') {
                return WORD;
            }
            if (sign >= '0' && sign <= '9') {
                return NUMBER;
            }
            return sign == ';' ? SEMICOLON : BAD;
        }

        /** Goes to the first token of the next statement; false if there is none to be read. */
        boolean nextStatement() {
            if (hasFailed()) {
                return false;
            }
            next();
            return kind != NOTHING;
        }

        boolean isWord(String word) {
            if (kind != WORD || end - start != word.length()) {
                return false;
            }
            for (int i = 0; i < word.length(); i++) {
                if (bytes.get(start + i) != word.charAt(i)) {
                    return false;
                }
            }
            return true;
        }

        int readNumber(int low, int high) {
            if (hasFailed()) {
                return 0;
            }
            next();
            if (kind != NUMBER) {
                fail(SYNTAX);
                return 0;
            }
            int number = 0;
            for (int i = start; i < end; i++) {
                number = number * 10 + bytes.get(i) - '0';
            }
            if (number < low || number > high) {
                fail(OUT_OF_RANGE);
            }
            return number;
        }

        int readTopic(Topics topics) {
            if (hasFailed()) {
                return 0;
            }
            next();
            int topic = topics.find(name());
            if (topic == NONE) {
                fail(UNKNOWN_NAME);
            }
            return topic;
        }

        void readNewTopic(Topics topics) {
            if (hasFailed()) {
                return;
            }
            next();
            int name = name();
            if (topics.find(name) != NONE) {
                fail(DUPLICATE_NAME);
            }
            if (!hasFailed()) {
                topics.add(name);
            }
        }

        /** The current token as Topics keeps a name, or 0 if it can be none. */
        private int name() {
            if (kind != WORD || end - start > MAX_LETTERS) {
                fail(SYNTAX);
                return 0;
            }
            int name = 0;
            for (int i = end - 1; i >= start; i--) {
                name = name << 5 | bytes.get(i) - 'a' + 1;
            }
            return name;
        }

        /** Takes a word that may be missing; another token is left to be read. */
        boolean takesWord(String word) {
            if (hasFailed()) {
                return false;
            }
            next();
            if (isWord(word)) {
                return true;
            }
            end = start;
            return false;
        }

        void readSemicolon() {
            if (hasFailed()) {
                return;
            }
            next();
            if (kind != SEMICOLON) {
                fail(SYNTAX);
            }
        }
    }

    /** The statements of a setup text. */
    private static final class Setup {
        static void parse(Text text, Topics topics, Cords cords) {
            text.begin();
            topics.clear();
            cords.clear();
            // Each statement takes a byte or more, so that the text ends before the counter does.
            for (int i = 0; i <= MAX_TEXT && text.nextStatement(); i++) {
                if (text.isWord("topic")) {
                    readTopic(text, topics);
                } else if (text.isWord("cluster")) {
                    readCluster(text, cords);
                } else {
                    readCord(text, topics, cords);
                }
            }
            if (topics.size == 0) {
                text.fail(INCOMPLETE);
            }
        }

        private static void readTopic(Text text, Topics topics) {
            if (topics.size >= MAX_TOPICS) {
                text.fail(TOO_MANY);
            }
            text.readNewTopic(topics);
            text.readSemicolon();
        }

        private static void readCluster(Text text, Cords cords) {
            if (cords.clusters >= MAX_CLUSTERS) {
                text.fail(TOO_MANY);
            }
            cords.openCluster();
            text.readSemicolon();
        }

        private static void readCord(Text text, Topics topics, Cords cords) {
            checkFirstWord(text, cords);
            int depth = text.isWord("top") ? 0 : text.isWord("pendant") ? 1 : text.readNumber(2, MAX_DEPTH);
            int at = placeFor(cords, depth);
            if (at == NONE) {
                text.fail(NO_PLACE);
            }
            int topic = text.readTopic(topics);
            int value = text.readNumber(0, MAX_VALUE);
            int places = text.takesWord("nibbled") ? text.readNumber(1, PLACES) : 0;
            text.readSemicolon();
            if (!text.hasFailed()) {
                cords.insert(at, cords.clusters - 1, depth, topic, value);
                cords.loseKnots(at, places);
            }
        }

        private static void checkFirstWord(Text text, Cords cords) {
            boolean isTop = text.isWord("top");
            if (!isTop && !text.isWord("pendant") && !text.isWord("sub")) {
                text.fail(SYNTAX);
            }
            if (cords.clusters == 0 || isTop && cords.hasTop(cords.clusters - 1)) {
                text.fail(NO_PLACE);
            }
            if (cords.size >= MAX_CORDS) {
                text.fail(TOO_MANY);
            }
        }

        /** The index of a new cord of the latest cluster, or NONE if there is no cord to hold it. */
        private static int placeFor(Cords cords, int depth) {
            int start = cords.start(cords.clusters - 1);
            if (depth == 0) {
                return start;
            }
            if (depth == 1) {
                return cords.size;
            }
            int holder = cords.latestAtDepth(start, cords.size, depth - 1);
            return holder == NONE ? NONE : cords.branchEnd(holder);
        }
    }

    /** The statements of a script: a kind and up to three arguments for each. */
    private static final class Script {
        private int size = 0;
        private final Row kinds = new Row(MAX_STATEMENTS);
        private final Row firsts = new Row(MAX_STATEMENTS);
        private final Row seconds = new Row(MAX_STATEMENTS);
        private final Row thirds = new Row(MAX_STATEMENTS);

        void parse(Text text, Topics topics) {
            text.begin();
            size = 0;
            // One more than there may be, so that the error of the statement too many is found.
            for (int i = 0; i <= MAX_STATEMENTS && text.nextStatement(); i++) {
                int kind = readKind(text);
                kinds.set(i, kind);
                firsts.set(i, readFirst(text, kind));
                seconds.set(i, readSecond(text, topics, kind));
                thirds.set(i, readThird(text, kind));
                text.readSemicolon();
                size = i + 1;
            }
        }

        private int readKind(Text text) {
            int kind = kindOf(text);
            if (kind == NO_CHANGE) {
                text.fail(SYNTAX);
            }
            if (size >= MAX_STATEMENTS) {
                text.fail(TOO_MANY);
            }
            return kind;
        }

        private static int kindOf(Text text) {
            if (text.isWord("cluster")) {
                return ADD_CLUSTER;
            }
            if (text.isWord("pendant")) {
                return ADD_PENDANT;
            }
            if (text.isWord("sub")) {
                return ADD_SUBSIDIARY;
            }
            if (text.isWord("cut")) {
                return CUT;
            }
            if (text.isWord("tie")) {
                return TIE_TOP;
            }
            if (text.isWord("knot")) {
                return SET_KNOTS;
            }
            if (text.isWord("nibble")) {
                return NIBBLE;
            }
            if (text.isWord("dye")) {
                return DYE;
            }
            return text.isWord("repair") ? REPAIR : NO_CHANGE;
        }

        private static int readFirst(Text text, int kind) {
            if (kind == ADD_CLUSTER) {
                return 0;
            }
            if (kind == ADD_PENDANT || kind == TIE_TOP || kind == REPAIR) {
                return text.readNumber(0, MAX_CLUSTERS - 1);
            }
            return text.readNumber(0, MAX_CORDS - 1);
        }

        private static int readSecond(Text text, Topics topics, int kind) {
            switch (kind) {
                case ADD_PENDANT:
                case ADD_SUBSIDIARY:
                case TIE_TOP:
                case DYE:
                    return text.readTopic(topics);
                case SET_KNOTS:
                    return text.readNumber(0, PLACES - 1);
                case NIBBLE:
                    return text.readNumber(1, PLACES);
                default:
                    return 0;
            }
        }

        private static int readThird(Text text, int kind) {
            if (kind == ADD_PENDANT || kind == ADD_SUBSIDIARY) {
                return text.readNumber(0, MAX_VALUE);
            }
            return kind == SET_KNOTS ? text.readNumber(0, MAX_KNOTS) : 0;
        }
    }
}

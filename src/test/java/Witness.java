/** All that can be seen of an object, as a text, to compare two objects with. */
final class Witness {
    private static final int LONGEST_OUTPUT = 400;

    private Witness() {
    }

    /** The clusters and cords, by every query; replaces the output. */
    static String cords(KnotReader k) {
        StringBuilder text = new StringBuilder();
        text.append(k.clusterCount()).append(" clusters, ").append(k.cordCount()).append(" cords: ").append(Checks.all(k));
        for (int i = 0; i < k.cordCount(); i++) {
            text.append(" ").append(k.clusterOf(i)).append(k.depthOf(i)).append(k.topicOf(i)).append(k.nibbledPlaces(i));
            text.append("=").append(k.knownValue(i));
        }
        return text.toString();
    }

    static String topics(KnotReader k) {
        StringBuilder text = new StringBuilder();
        for (int i = 0; i < k.topicCount(); i++) {
            for (int at = 0; k.topicByte(i, at) != KnotReader.NONE; at++) {
                text.append((char) k.topicByte(i, at));
            }
            text.append(" ");
        }
        return text.toString();
    }

    static String output(KnotReader k) {
        StringBuilder text = new StringBuilder();
        for (int i = 0; i < LONGEST_OUTPUT && k.outputByte(i) != KnotReader.NONE; i++) {
            text.append((char) k.outputByte(i));
        }
        return text.toString();
    }

    /** How many bytes the input buffer holds. */
    static int inputLength(KnotReader k) {
        int length = 700;
        while (!k.truncateInput(length)) {
            length--;
        }
        return length;
    }

    static String error(KnotReader k) {
        return "error " + k.errorCode() + " at " + k.errorOffset();
    }

    /** Everything, the input buffer's bytes by running them as a script; the object is used up by that. */
    static String everything(KnotReader k) {
        StringBuilder text = new StringBuilder();
        text.append(error(k)).append("\n").append(output(k)).append("\n").append(topics(k)).append("\n");
        text.append(inputLength(k)).append(" bytes\n").append(cords(k)).append("\n");
        for (Object left = 9; left instanceof Integer;) {
            left = Checks.answer(k::undo);
            text.append("undo: ").append(left).append(" ").append(cords(k)).append("\n");
        }
        text.append("restored: ").append(Checks.answer(k::restoreState)).append(" ").append(cords(k)).append("\n");
        text.append("script: ").append(k.runScript()).append(" ").append(error(k)).append(" ").append(cords(k));
        return text.toString();
    }
}

/** Ways to bring a tool into a state with few words, and to look at it. */
final class Tools {
    private Tools() {
    }

    static InPlaceDelta ofVersions(String old, String fresh) {
        InPlaceDelta tool = new InPlaceDelta();
        appendAll(tool, 0, old);
        appendAll(tool, 1, fresh);
        return tool;
    }

    static InPlaceDelta ofMade(String old, String fresh) {
        InPlaceDelta tool = ofVersions(old, fresh);
        tool.make();
        return tool;
    }

    /** A tool whose delta has been decoded from the bytes, to which the check byte is added. */
    static InPlaceDelta ofDecoded(String old, int... bytes) {
        InPlaceDelta tool = ofVersions(old, "");
        writeAll(tool, bytes);
        tool.write(checkOf(bytes));
        if (tool.decode() < 0) {
            throw new IllegalStateException("the test's own code has a fault");
        }
        return tool;
    }

    /** A delta of COPY commands alone, each given by source, target and length; both of its lengths are the size. */
    static InPlaceDelta ofCopies(int size, int... copies) {
        int[] bytes = new int[4 + copies.length / 3 * 4];
        bytes[0] = 73;
        bytes[1] = size;
        bytes[2] = size;
        bytes[3] = copies.length / 3;
        for (int i = 0; i < copies.length / 3; i++) {
            bytes[4 + 4 * i] = 1;
            System.arraycopy(copies, 3 * i, bytes, 5 + 4 * i, 3);
        }
        return ofDecoded(letters(size), bytes);
    }

    /** As many bytes as wanted, all of them different. */
    static String letters(int size) {
        StringBuilder text = new StringBuilder();
        for (int i = 0; i < size; i++) {
            text.append((char) ('0' + i));
        }
        return text.toString();
    }

    static void appendAll(InPlaceDelta tool, int version, String text) {
        for (char value : text.toCharArray()) {
            tool.append(version, value);
        }
    }

    static void writeAll(InPlaceDelta tool, int... bytes) {
        for (int value : bytes) {
            tool.write(value);
        }
    }

    static int checkOf(int... bytes) {
        int sum = 0;
        for (int value : bytes) {
            sum += value;
        }
        return sum % 251;
    }

    /** The digest of a state that has these values. */
    static long hashOf(int... values) {
        long hash = 2777;
        for (int value : values) {
            hash = 31 * hash + value;
        }
        return hash;
    }

    static int finish(InPlaceDelta tool) {
        int left = tool.begin();
        int steps = 0;
        while (left > 0) {
            left = tool.step();
            steps++;
        }
        return steps;
    }

    static String codeOf(InPlaceDelta tool) {
        StringBuilder text = new StringBuilder();
        for (int i = 0; i < tool.code(-1); i++) {
            text.append(i == 0 ? "" : " ").append(tool.code(i));
        }
        return text.toString();
    }

    static String workOf(InPlaceDelta tool) {
        StringBuilder text = new StringBuilder();
        for (int i = 0; i < tool.workByte(-1); i++) {
            text.append((char) tool.workByte(i));
        }
        return text.toString();
    }

    static String orderOf(InPlaceDelta tool) {
        StringBuilder text = new StringBuilder();
        for (int i = 0; i < tool.commands(); i++) {
            text.append(i == 0 ? "" : " ").append(tool.planned(i));
        }
        return text.toString();
    }

    /** The commands, each as its four values. */
    static String deltaOf(InPlaceDelta tool) {
        StringBuilder text = new StringBuilder();
        for (int i = 0; i < tool.commands(); i++) {
            text.append(i == 0 ? "" : "; ").append(tool.command(i, 0)).append(' ').append(tool.command(i, 1))
                    .append(' ').append(tool.command(i, 2)).append(' ').append(tool.command(i, 3));
        }
        return text.toString();
    }

    /** Says of a call that throws that it leaves the digest as it was. */
    static void unchanged(String what, InPlaceDelta tool, Due.Call call) {
        long before = tool.digest();
        Due.answerOf(call);
        Due.is(what + " changes nothing", tool.digest(), before);
    }
}

/** Ways to bring a tool into a state with few words. */
final class Tools {
    private Tools() {
    }

    static InPlaceDelta ofVersions(String old, String fresh) {
        InPlaceDelta tool = new InPlaceDelta();
        appendAll(tool, 0, old);
        appendAll(tool, 1, fresh);
        return tool;
    }

    static InPlaceDelta ofMade(String old, String fresh) {
        InPlaceDelta tool = ofVersions(old, fresh);
        tool.make();
        return tool;
    }

    /** A tool whose delta has been decoded from the bytes, to which the check byte is added. */
    static InPlaceDelta ofDecoded(String old, int... bytes) {
        InPlaceDelta tool = ofVersions(old, "");
        writeAll(tool, bytes);
        tool.write(checkOf(bytes));
        tool.decode();
        return tool;
    }

    static void appendAll(InPlaceDelta tool, int version, String text) {
        for (char value : text.toCharArray()) {
            tool.append(version, value);
        }
    }

    static void writeAll(InPlaceDelta tool, int... bytes) {
        for (int value : bytes) {
            tool.write(value);
        }
    }

    static int checkOf(int... bytes) {
        int sum = 0;
        for (int value : bytes) {
            sum += value;
        }
        return sum % 251;
    }

    static int finish(InPlaceDelta tool) {
        int left = tool.begin();
        int steps = 0;
        while (left > 0) {
            left = tool.step();
            steps++;
        }
        return steps;
    }

    static String codeOf(InPlaceDelta tool) {
        StringBuilder text = new StringBuilder();
        for (int i = 0; i < tool.code(-1); i++) {
            text.append(i == 0 ? "" : " ").append(tool.code(i));
        }
        return text.toString();
    }

    static String workOf(InPlaceDelta tool) {
        StringBuilder text = new StringBuilder();
        for (int i = 0; i < tool.workByte(-1); i++) {
            text.append((char) tool.workByte(i));
        }
        return text.toString();
    }

    static String orderOf(InPlaceDelta tool) {
        StringBuilder text = new StringBuilder();
        for (int i = 0; i < tool.commands(); i++) {
            text.append(i == 0 ? "" : " ").append(tool.planned(i));
        }
        return text.toString();
    }

    /** The commands, each as its four values. */
    static String deltaOf(InPlaceDelta tool) {
        StringBuilder text = new StringBuilder();
        for (int i = 0; i < tool.commands(); i++) {
            text.append(i == 0 ? "" : "; ").append(tool.command(i, 0)).append(' ').append(tool.command(i, 1))
                    .append(' ').append(tool.command(i, 2)).append(' ').append(tool.command(i, 3));
        }
        return text.toString();
    }

    /** Says of a call that throws that it leaves the digest as it was. */
    static void unchanged(String what, InPlaceDelta tool, Due.Call call) {
        long before = tool.digest();
        Due.answerOf(call);
        Due.is(what + " changes nothing", tool.digest(), before);
    }
}

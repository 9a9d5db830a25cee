/** Promise 19: the faults of a code, each at its index, and the first of several. */
final class FaultsTest {
    public static void main(String[] args) {
        head();
        kinds();
        positionsAndLengths();
        ranges();
        writtenTwice();
        missing();
        end();
        nothingChanges();
        fine();
        Due.end();
    }

    private static void fault(String what, int index, int... bytes) {
        InPlaceDelta tool = new InPlaceDelta();
        Tools.writeAll(tool, bytes);
        long before = tool.digest();
        Due.is(what, tool.decode(), -10 - index);
        Due.is(what + ": nothing changes", tool.digest(), before);
    }

    /** The fault of a code that has 64 for both lengths and these commands. */
    private static void commandFault(String what, int index, int count, int... commands) {
        int[] bytes = new int[commands.length + 4];
        bytes[0] = 73;
        bytes[1] = 64;
        bytes[2] = 64;
        bytes[3] = count;
        System.arraycopy(commands, 0, bytes, 4, commands.length);
        fault(what, index, bytes);
    }

    private static void head() {
        fault("an empty code", 0);
        fault("a wrong first byte", 0, 72);
        fault("a wrong first byte before all else", 0, 74, 65, 65, 31);
        fault("no source length", 1, 73);
        fault("source length 65", 1, 73, 65);
        fault("source length 255 before the target length", 1, 73, 255, 65);
        fault("no target length", 2, 73, 64);
        fault("target length 65", 2, 73, 64, 65, 31);
        fault("no number of commands", 3, 73, 64, 64);
        fault("31 commands", 3, 73, 64, 64, 31);
        fault("30 commands are allowed, the first is missing", 4, 73, 64, 64, 30);
        fault("no check byte", 4, 73, 64, 64, 0);
    }

    private static void kinds() {
        commandFault("kind 0", 4, 1, 0);
        commandFault("kind 3", 4, 1, 3, 65, 65, 65);
        commandFault("kind 255", 4, 1, 255);
        int[] copies = new int[13 * 4];
        for (int i = 0; i < 13; i++) {
            copies[4 * i] = 1;
            copies[4 * i + 1] = 0;
            copies[4 * i + 2] = i;
            copies[4 * i + 3] = 1;
        }
        commandFault("a 13th COPY", 4 + 48, 13, copies);
        copies[48] = 2;
        copies[49] = 12;
        copies[50] = 1;
        copies[51] = 9;
        commandFault("an ADD behind 12 COPY commands is no fault, the check byte is missing", 56, 13, copies);
        copies[48] = 0;
        commandFault("kind 0 behind 12 COPY commands", 52, 13, copies);
    }

    private static void positionsAndLengths() {
        commandFault("source position 65", 5, 1, 1, 65, 65, 0);
        commandFault("target position 65 of a COPY", 6, 1, 1, 64, 65, 0);
        commandFault("length 0 of a COPY", 7, 1, 1, 64, 64, 0);
        commandFault("length 65 of a COPY", 7, 1, 1, 0, 0, 65);
        commandFault("target position 65 of an ADD", 5, 1, 2, 65, 0);
        commandFault("length 0 of an ADD", 6, 1, 2, 64, 0);
        commandFault("length 65 of an ADD", 6, 1, 2, 0, 65);
        commandFault("source position 65 is found though the rest is missing", 5, 1, 1, 65);
    }

    private static void ranges() {
        commandFault("source position + length", 7, 1, 1, 61, 0, 4);
        commandFault("target position + length of a COPY", 7, 1, 1, 60, 61, 4);
        commandFault("target position + length of an ADD", 6, 1, 2, 61, 4);
        commandFault("position 64 leaves no length", 6, 1, 2, 64, 1);
        fault("a COPY from an empty source", 7, 73, 0, 9, 1, 1, 0, 0, 1);
        fault("a COPY into an empty target", 7, 73, 9, 0, 1, 1, 0, 0, 1);
        fault("an ADD into an empty target", 6, 73, 9, 0, 1, 2, 0, 1);
        fault("the source length does not bound an ADD", 8, 73, 0, 9, 1, 2, 0, 9, 1);
    }

    private static void writtenTwice() {
        fault("two ADD commands", 10, 73, 64, 64, 2, 2, 5, 2, 7, 7, 2, 6, 2, 8, 8);
        fault("found before the bytes of the ADD are read", 10, 73, 64, 64, 2, 2, 5, 2, 7, 7, 2, 6, 2);
        fault("the second writes round the first", 10, 73, 64, 64, 2, 2, 5, 2, 7, 7, 2, 4, 4);
        fault("a COPY over an ADD", 11, 73, 64, 64, 2, 2, 5, 2, 7, 7, 1, 0, 6, 1);
        fault("a COPY over a COPY", 10, 73, 64, 64, 2, 1, 0, 5, 2, 1, 0, 4, 2);
        fault("a range fault comes before it", 11, 73, 64, 64, 2, 1, 0, 5, 2, 1, 63, 5, 2);
        fault("a target range fault comes before it", 11, 73, 64, 10, 2, 1, 0, 5, 2, 1, 0, 6, 5);
        fault("neighbours are no fault, the check byte is missing", 12, 73, 64, 64, 2, 1, 0, 5, 2, 1, 0, 7, 2);
    }

    private static void missing() {
        int[] whole = {73, 9, 9, 2, 1, 0, 0, 2, 2, 2, 3, 65, 66, 67, 0};
        whole[14] = Tools.checkOf(73, 9, 9, 2, 1, 0, 0, 2, 2, 2, 3, 65, 66, 67);
        for (int length = 0; length < whole.length; length++) {
            int[] part = new int[length];
            System.arraycopy(whole, 0, part, 0, length);
            fault("only " + length + " bytes", length, part);
        }
        InPlaceDelta tool = new InPlaceDelta();
        Tools.writeAll(tool, whole);
        Due.is("the whole code", tool.decode(), 2);
    }

    private static void end() {
        fault("a wrong check byte", 4, 73, 0, 0, 0, 74);
        fault("a check byte that is not taken modulo 251", 12,
                73, 0, 5, 1, 2, 0, 5, 50, 50, 50, 12, 4, 252);
        fault("a byte behind the check byte", 5, 73, 0, 0, 0, 73, 0);
        fault("several bytes behind the check byte", 5, 73, 0, 0, 0, 73, 1, 2, 3);
        fault("a wrong check byte before the bytes behind it", 4, 73, 0, 0, 0, 72, 1, 2, 3);
        fault("251 is 0 as a check byte", 8, 73, 0, 1, 1, 2, 0, 1, 173, 251);
    }

    private static void nothingChanges() {
        InPlaceDelta tool = Tools.ofMade("abcdef", "xabcdef");
        tool.plan(0);
        tool.begin();
        tool.step();
        tool.write(9);
        long before = tool.digest();
        Due.is("a fault", tool.decode(), -10);
        Due.is("a fault keeps the delta, the plan, the work and the saved states", tool.digest(), before);
        Due.is("the work goes on", tool.step(), 0);
    }

    private static void fine() {
        InPlaceDelta tool = new InPlaceDelta();
        Tools.writeAll(tool, 73, 0, 0, 0, 73);
        Due.is("no commands", tool.decode(), 0);
        Due.is("the code stays", Tools.codeOf(tool), "73 0 0 0 73");
        Due.is("251 in all has the check byte 0", Tools.ofDecoded("", 73, 0, 1, 1, 2, 0, 1, 173).commands(), 1);
        Due.is("unwritten positions are no fault", Tools.ofDecoded("", 73, 3, 9, 1, 2, 4, 1, 5).commands(), 1);
        InPlaceDelta order = Tools.ofDecoded("", 73, 9, 9, 3, 2, 7, 1, 65, 1, 3, 4, 2, 2, 0, 2, 66, 67);
        Due.is("the commands stay in their order", Tools.deltaOf(order), "2 -1 7 1; 1 3 4 2; 2 -1 0 2");
        InPlaceDelta whole = Tools.ofDecoded("", 73, 64, 64, 1, 1, 0, 0, 64);
        Due.is("a COPY of 64 bytes", Tools.deltaOf(whole), "1 0 0 64");
    }
}

/** States that many tests begin with; each has four saved states. */
final class States {
    static final int LOW = Integer.MIN_VALUE;
    static final int HIGH = Integer.MAX_VALUE;

    private States() {
    }

    /** Three blocks change places in a circle: the COPY commands 0, 2 and 4 in a cycle, the ADD commands 1 and 3. */
    static InPlaceDelta circle() {
        return Tools.ofMade("abcde.fghij.klmno", "fghij-klmno-abcde");
    }

    /** A plan that converts COPY 0, a code, and a work with four commands left; the saved states all differ. */
    static InPlaceDelta underWay() {
        InPlaceDelta tool = circle();
        tool.plan(0);
        tool.encode();
        tool.begin();
        tool.step();
        return tool;
    }

    /** A plan and a work whose commands have all been carried out. */
    static InPlaceDelta atEnd() {
        InPlaceDelta tool = circle();
        tool.plan(0);
        Tools.finish(tool);
        return tool;
    }

    /**
     * The plan with policy 0 of a delta for which each policy has its own plan: COPY 3 (length 2) is in a cycle with
     * COPY 0 (length 3) and in one with COPY 4 (length 1), the commands 1 and 2 are ADD commands.
     */
    static InPlaceDelta star() {
        InPlaceDelta tool = Tools.ofDecoded("0123456789", 73, 10, 10, 5,
                1, 4, 0, 3, 2, 9, 1, 65, 2, 8, 1, 66, 1, 2, 5, 2, 1, 6, 3, 1);
        tool.plan(0);
        return tool;
    }

    /** Both versions with 64 bytes, a plan, and a work with one command left. */
    static InPlaceDelta fullVersions() {
        InPlaceDelta tool = Tools.ofMade(Tools.letters(64), Tools.letters(63) + "!");
        tool.plan(0);
        tool.encode();
        tool.begin();
        tool.step();
        return tool;
    }

    /** A code with 200 bytes, a plan, and a work. */
    static InPlaceDelta fullCode() {
        InPlaceDelta tool = circle();
        tool.plan(0);
        tool.begin();
        for (int i = 0; i < 200; i++) {
            tool.write(i);
        }
        return tool;
    }

    /** An old version that is one byte longer than the delta's source length. */
    static InPlaceDelta oldTooLong() {
        InPlaceDelta tool = underWay();
        tool.append(0, 'x');
        return tool;
    }

    /** The longest code: 30 ADD commands that fill 64 bytes; its delta is decoded, and the old version is empty. */
    static InPlaceDelta thirtyAdds() {
        int[] bytes = new int[4 + 30 * 3 + 64];
        int[] head = {73, 0, 64, 30};
        System.arraycopy(head, 0, bytes, 0, 4);
        int index = 4;
        int position = 0;
        for (int i = 0; i < 30; i++) {
            int length = i < 26 ? 2 : 3;
            bytes[index] = 2;
            bytes[index + 1] = position;
            bytes[index + 2] = length;
            for (int k = 0; k < length; k++) {
                bytes[index + 3 + k] = 100 + position + k;
            }
            index += 3 + length;
            position += length;
        }
        return Tools.ofDecoded("", bytes);
    }

    /** A delta of 18 ADD commands, then 12 COPY commands of one byte; 0 to 11 is read, 20 to 31 is written. */
    static InPlaceDelta twelveCopies() {
        return Tools.ofDecoded(Tools.letters(20), twelveCopiesBytes());
    }

    /** The code of that delta, without its check byte. */
    static int[] twelveCopiesBytes() {
        int[] bytes = new int[4 + 18 * 4 + 12 * 4];
        int[] head = {73, 20, 64, 30};
        System.arraycopy(head, 0, bytes, 0, 4);
        for (int i = 0; i < 18; i++) {
            int[] add = {2, 40 + i, 1, 200 + i};
            System.arraycopy(add, 0, bytes, 4 + 4 * i, 4);
        }
        for (int i = 0; i < 12; i++) {
            int[] copy = {1, i, 20 + i, 1};
            System.arraycopy(copy, 0, bytes, 4 + 18 * 4 + 4 * i, 4);
        }
        return bytes;
    }

    /** 28 ADD commands, then two COPY commands, each given by source, target and length, within 60 bytes. */
    static InPlaceDelta afterAdds(int... copies) {
        int[] bytes = new int[4 + 28 * 4 + 8];
        int[] head = {73, 60, 60, 30};
        System.arraycopy(head, 0, bytes, 0, 4);
        for (int i = 0; i < 28; i++) {
            int[] add = {2, i, 1, i};
            System.arraycopy(add, 0, bytes, 4 + 4 * i, 4);
        }
        for (int i = 0; i < 2; i++) {
            bytes[116 + 4 * i] = 1;
            System.arraycopy(copies, 3 * i, bytes, 117 + 4 * i, 3);
        }
        return Tools.ofDecoded(Tools.letters(60), bytes);
    }
}

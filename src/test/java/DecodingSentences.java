import java.util.Arrays;

/** The paragraph "Decoding" of "Description": each fault at its edge, and which of several is the first. */
final class DecodingSentences {
    private DecodingSentences() {
    }

    static void run() {
        Sentences.from("Description, Decoding");
        order();
        missing();
        head();
        kinds();
        positionsAndLengths();
        ranges();
        writtenTwice();
        end();
    }

    /** Says that the code has this fault, and that decode changes nothing then. */
    static void fault(String what, int index, int... bytes) {
        InPlaceDelta tool = new InPlaceDelta();
        Tools.writeAll(tool, bytes);
        long before = tool.digest();
        Due.is(what, tool.decode(), -10 - index);
        Due.is(what + ", nothing changes", tool.digest(), before);
    }

    /** Says that the bytes with their check byte have no fault. */
    private static void fine(String what, int... bytes) {
        InPlaceDelta tool = new InPlaceDelta();
        Tools.writeAll(tool, bytes);
        tool.write(Tools.checkOf(bytes));
        Due.is(what, tool.decode(), bytes[3]);
        Due.is(what + ", its commands", tool.commands(), bytes[3]);
    }

    private static void order() {
        Sentences.test("The code is read from the left.", () -> {
            fault("every byte is wrong", 0, 72, 65, 65, 31, 3, 65, 65, 0);
            fault("all but the first", 1, 73, 65, 65, 31, 3, 65, 65, 0);
            fault("from the third on", 2, 73, 64, 65, 31, 3, 65, 65, 0);
            fault("from the fourth on", 3, 73, 64, 64, 31, 3, 65, 65, 0);
            fault("from the first command on", 4, 73, 64, 64, 30, 3, 65, 65, 0);
            fault("from its source position on", 5, 73, 64, 64, 30, 1, 65, 65, 0);
            fault("from its target position on", 6, 73, 64, 64, 30, 1, 64, 65, 0);
            fault("its length", 7, 73, 64, 64, 30, 1, 64, 64, 0);
        });
        Sentences.test("The fault of a code is the first of these that is found", () -> {
            fault("a wrong byte before a missing one", 0, 72);
            fault("a missing byte before the wrong check byte", 8, 73, 9, 9, 1, 2, 0, 2, 1);
            fault("a fault in the first command before one in the second", 6, 73, 9, 9, 2, 2, 0, 0, 3);
            fault("the check byte before what follows it", 4, 73, 0, 0, 0, 72, 72);
        });
    }

    private static void missing() {
        Sentences.test("a byte is missing: the fault is the length of the code", () -> {
            int[] bytes = {73, 9, 9, 2, 1, 0, 0, 2, 2, 2, 3, 65, 66, 67};
            for (int length = 0; length <= bytes.length; length++) {
                fault("only " + length + " bytes", length, Arrays.copyOf(bytes, length));
            }
            fine("with the check byte none is missing", bytes);
            fault("30 commands, the last of them is missing", 4 + 29 * 4,
                    Arrays.copyOf(States.twelveCopiesBytes(), 4 + 29 * 4));
            fault("the last byte of an ADD of 64", 4 + 3 + 63, addOf(64, 63));
            fault("the check byte behind it", 4 + 3 + 64, addOf(64, 64));
        });
    }

    /** The head and an ADD of a length of which only some bytes are there. */
    private static int[] addOf(int length, int there) {
        int[] bytes = new int[7 + there];
        int[] head = {73, 0, 64, 1, 2, 0, length};
        System.arraycopy(head, 0, bytes, 0, 7);
        return bytes;
    }

    private static void head() {
        Sentences.test("the first byte is not 73: 0", () -> {
            for (int first : new int[] {0, 72, 74, 255}) {
                fault("first byte " + first, 0, first, 0, 0, 0, first);
            }
            fine("73", 73, 0, 0, 0);
        });
        Sentences.test("the source length is greater than 64: 1", () -> {
            fine("0", 73, 0, 5, 0);
            fine("64", 73, 64, 5, 0);
            fault("65", 1, 73, 65, 5, 0, 143);
            fault("255", 1, 73, 255, 5, 0, 82);
        });
        Sentences.test("the target length is greater than 64: 2", () -> {
            fine("0", 73, 5, 0, 0);
            fine("64", 73, 5, 64, 0);
            fault("65", 2, 73, 5, 65, 0, 143);
            fault("255", 2, 73, 5, 255, 0, 82);
        });
        Sentences.test("the number of commands is greater than 30: 3", () -> {
            fine("0", 73, 0, 0, 0);
            fine("30", States.twelveCopiesBytes());
            int[] more = States.twelveCopiesBytes();
            more[3] = 31;
            fault("31", 3, more);
            fault("255", 3, 73, 0, 0, 255, 77);
        });
    }

    private static void kinds() {
        Sentences.test("the first byte of a command is neither 1 nor 2", () -> {
            fine("1", 73, 9, 9, 1, 1, 0, 0, 1);
            fine("2", 73, 9, 9, 1, 2, 0, 1, 5);
            for (int kind : new int[] {0, 3, 73, 255}) {
                fault("kind " + kind, 4, 73, 9, 9, 1, kind, 0, 0, 1);
                fault("kind " + kind + " of the second command", 8, 73, 9, 9, 2, 1, 0, 0, 1, kind);
            }
        });
        Sentences.test("or is 1 although 12 COPY commands have been read: its index", () -> {
            int[] bytes = new int[4 + 13 * 4];
            int[] head = {73, 20, 40, 13};
            System.arraycopy(head, 0, bytes, 0, 4);
            for (int i = 0; i < 13; i++) {
                int[] copy = {1, 0, i, 1};
                System.arraycopy(copy, 0, bytes, 4 + 4 * i, 4);
            }
            fault("the 13th COPY", 4 + 48, bytes);
            fault("it is found before the rest of it is read", 4 + 48, Arrays.copyOf(bytes, 4 + 49));
            int[] twelve = Arrays.copyOf(bytes, 4 + 48);
            twelve[3] = 12;
            fine("12 COPY commands", twelve);
            int[] add = {2, 12, 1, 9};
            System.arraycopy(add, 0, bytes, 4 + 48, 4);
            fine("an ADD behind 12 COPY commands", bytes);
            bytes[4 + 48] = 0;
            fault("neither 1 nor 2 behind 12 COPY commands", 4 + 48, bytes);
            fine("the 12th COPY as the 30th command", States.twelveCopiesBytes());
        });
    }

    private static void positionsAndLengths() {
        Sentences.test("each command is read byte by byte, its positions first, then its length: a position or a "
                + "length that is greater than 64, or a length that is 0: its index", () -> {
            fault("source position 65", 5, 73, 64, 64, 1, 1, 65, 0, 1);
            fault("source position 255", 5, 73, 64, 64, 1, 1, 255, 0, 1);
            fault("source position 64 is found at the length", 7, 73, 64, 64, 1, 1, 64, 0, 1);
            fault("target position 65 of a COPY", 6, 73, 64, 64, 1, 1, 0, 65, 1);
            fault("target position 64 of a COPY is found at the length", 7, 73, 64, 64, 1, 1, 0, 64, 1);
            fault("target position 65 of an ADD", 5, 73, 64, 64, 1, 2, 65, 1, 5);
            fault("target position 64 of an ADD is found at the length", 6, 73, 64, 64, 1, 2, 64, 1, 5);
            fault("length 65 of a COPY", 7, 73, 64, 64, 1, 1, 0, 0, 65);
            fault("length 0 of a COPY", 7, 73, 64, 64, 1, 1, 0, 0, 0, 202);
            fault("length 65 of an ADD", 6, 73, 64, 64, 1, 2, 0, 65);
            fault("length 0 of an ADD", 6, 73, 64, 64, 1, 2, 0, 0, 204);
            fine("length 64 of a COPY", 73, 64, 64, 1, 1, 0, 0, 64);
            fine("length 64 of an ADD", addOf(64, 64));
            fine("length 1 of both", 73, 64, 64, 2, 1, 63, 63, 1, 2, 0, 1, 9);
            fault("a wrong position though the rest is missing", 5, 73, 64, 64, 1, 1, 65);
            fault("both positions before the length", 5, 73, 64, 64, 1, 1, 65, 65, 0);
            fault("the target position before the length", 6, 73, 64, 64, 1, 1, 64, 65, 0);
            fault("a right source position, the rest is missing", 6, 73, 4, 64, 1, 1, 9);
        });
    }

    private static void ranges() {
        Sentences.test("behind the length: source position + length of a COPY is greater than the source length: the "
                + "index of its length", () -> {
            fine("equal", 73, 10, 64, 1, 1, 6, 0, 4);
            fault("greater by 1", 7, 73, 10, 64, 1, 1, 7, 0, 4);
            fine("equal to 64", 73, 64, 64, 1, 1, 60, 0, 4);
            fault("65", 7, 73, 64, 64, 1, 1, 61, 0, 4);
            fault("128", 7, 73, 64, 64, 1, 1, 64, 0, 64);
            fault("an empty source", 7, 73, 0, 64, 1, 1, 0, 0, 1);
            fault("not before the length is there", 7, 73, 10, 64, 1, 1, 64, 0);
            fine("an ADD has no source", 73, 0, 64, 1, 2, 60, 4, 1, 2, 3, 4);
        });
        Sentences.test("target position + length of a command is greater than the target length: the index of its "
                + "length", () -> {
            fine("equal, a COPY", 73, 64, 10, 1, 1, 0, 6, 4);
            fault("greater by 1, a COPY", 7, 73, 64, 10, 1, 1, 0, 7, 4);
            fine("equal, an ADD", 73, 64, 10, 1, 2, 8, 2, 5, 5);
            fault("greater by 1, an ADD", 6, 73, 64, 10, 1, 2, 9, 2, 5, 5);
            fault("128", 6, 73, 64, 64, 1, 2, 64, 64);
            fault("an empty target, a COPY", 7, 73, 64, 0, 1, 1, 0, 0, 1);
            fault("an empty target, an ADD", 6, 73, 64, 0, 1, 2, 0, 1, 5);
            fault("before the bytes of the ADD", 6, 73, 64, 10, 1, 2, 9, 2);
        });
        Sentences.test("(of a COPY, this is looked at after the source)", () -> {
            fault("both are too great", 7, 73, 10, 10, 1, 1, 7, 7, 4);
            fault("the source alone", 7, 73, 10, 12, 1, 1, 7, 7, 4);
            fault("the target alone", 7, 73, 12, 10, 1, 1, 7, 7, 4);
        });
    }

    private static void writtenTwice() {
        Sentences.test("a position of the target is written twice: the index of the target position of the command "
                + "that writes it for the second time", () -> {
            fault("an ADD over the last byte of an ADD", 10, 73, 64, 64, 2, 2, 5, 2, 7, 7, 2, 6, 2, 8, 8);
            fault("an ADD over the first byte of an ADD", 10, 73, 64, 64, 2, 2, 5, 2, 7, 7, 2, 4, 2, 8, 8);
            fault("an ADD within an ADD", 11, 73, 64, 64, 2, 2, 5, 3, 7, 7, 7, 2, 6, 1, 8);
            fault("an ADD round an ADD", 9, 73, 64, 64, 2, 2, 5, 1, 7, 2, 4, 3, 8, 8, 8);
            fault("a COPY over an ADD", 11, 73, 64, 64, 2, 2, 5, 2, 7, 7, 1, 0, 6, 1);
            fault("an ADD over a COPY", 9, 73, 64, 64, 2, 1, 0, 5, 2, 2, 6, 1, 8);
            fault("a COPY over a COPY", 10, 73, 64, 64, 2, 1, 0, 5, 2, 1, 9, 4, 2);
            fault("the third over the first", 14, 73, 64, 64, 3, 1, 0, 5, 2, 1, 0, 20, 2, 1, 0, 6, 2);
            fault("position 63", 10, 73, 64, 64, 2, 1, 0, 63, 1, 1, 0, 63, 1);
            fault("position 0", 10, 73, 64, 64, 2, 1, 0, 0, 1, 1, 0, 0, 1);
            fine("one behind the other", 73, 64, 64, 2, 1, 0, 5, 2, 1, 0, 7, 2);
            fine("one before the other", 73, 64, 64, 2, 1, 0, 5, 2, 1, 0, 3, 2);
            fine("a position of the source is read twice", 73, 64, 64, 2, 1, 0, 5, 2, 1, 0, 10, 2);
        });
        Sentences.test("(found when the command has been read up to its length)", () -> {
            fault("not before the length is there", 12, 73, 64, 64, 2, 2, 5, 2, 7, 7, 1, 0, 5);
            fault("a wrong length comes before it", 12, 73, 64, 64, 2, 2, 5, 2, 7, 7, 1, 0, 5, 0);
            fault("the source's end comes before it", 12, 73, 10, 64, 2, 2, 5, 2, 7, 7, 1, 9, 5, 2);
            fault("the target's end comes before it", 11, 73, 10, 10, 2, 2, 5, 2, 7, 7, 2, 6, 5);
            fault("it comes before the bytes of the ADD", 10, 73, 64, 64, 2, 2, 5, 2, 7, 7, 2, 5, 2);
            fault("it comes before the next command", 10, 73, 64, 64, 3, 2, 5, 2, 7, 7, 2, 5, 1, 7, 3);
        });
    }

    private static void end() {
        Sentences.test("the check byte is wrong: its index", () -> {
            fault("one too small", 4, 73, 0, 0, 0, 72);
            fault("one too great", 4, 73, 0, 0, 0, 74);
            fault("251 in place of 0", 8, 73, 0, 1, 1, 2, 0, 1, 173, 251);
            fault("252 in place of 1", 8, 73, 0, 1, 1, 2, 0, 1, 174, 252);
            fine("the sum 250", 73, 0, 1, 1, 2, 0, 1, 172);
            fine("the sum 251", 73, 0, 1, 1, 2, 0, 1, 173);
            fine("the sum 252", 73, 0, 1, 1, 2, 0, 1, 174);
            int[] high = addOf(64, 64);
            Arrays.fill(high, 7, 71, 255);
            fine("64 bytes of 255", high);
        });
        Sentences.test("bytes follow the check byte: the index of the first of them", () -> {
            fault("one", 5, 73, 0, 0, 0, 73, 0);
            fault("several", 5, 73, 0, 0, 0, 73, 73, 0, 0, 0, 73);
            int[] full = new int[200];
            System.arraycopy(new int[] {73, 0, 0, 0, 73}, 0, full, 0, 5);
            fault("195", 5, full);
        });
        Sentences.test("(Positions of the target that no command writes are no fault.)", () -> {
            fine("no position is written", 73, 0, 64, 0);
            fine("before, between and behind", 73, 9, 9, 2, 2, 1, 1, 7, 1, 0, 4, 2);
        });
    }
}
